/-! THE LAW: its instructions, 4 of 4 -/
theorem dL_law_2686 : decode cL_law 2686 = .ok (.iconst 0, 1) := by decide +kernel
theorem dL_law_2687 : decode cL_law 2687 = .ok (.laload, 1) := by decide +kernel
theorem dL_law_2688 : decode cL_law 2688 = .ok (.iload 7, 2) := by decide +kernel
theorem dL_law_2690 : decode cL_law 2690 = .ok (.i2l, 1) := by decide +kernel
theorem dL_law_2691 : decode cL_law 2691 = .ok (.lcmp, 1) := by decide +kernel
theorem dL_law_2692 : decode cL_law 2692 = .ok (.ifCond .eq 5, 3) := by decide +kernel
theorem dL_law_2695 : decode cL_law 2695 = .ok (.iconst 0, 1) := by decide +kernel
theorem dL_law_2696 : decode cL_law 2696 = .ok (.ireturn, 1) := by decide +kernel
theorem dL_law_2697 : decode cL_law 2697 = .ok (.goto 671, 3) := by decide +kernel
theorem dL_law_2700 : decode cL_law 2700 = .ok (.aload_n 1, 1) := by decide +kernel
theorem dL_law_2701 : decode cL_law 2701 = .ok (.aload_n 0, 1) := by decide +kernel
theorem dL_law_2702 : decode cL_law 2702 = .ok (.iload 5, 2) := by decide +kernel
theorem dL_law_2704 : decode cL_law 2704 = .ok (.iconst 1, 1) := by decide +kernel
theorem dL_law_2705 : decode cL_law 2705 = .ok (.iadd, 1) := by decide +kernel
theorem dL_law_2706 : decode cL_law 2706 = .ok (.iaload, 1) := by decide +kernel
theorem dL_law_2707 : decode cL_law 2707 = .ok (.aload_n 3, 1) := by decide +kernel
theorem dL_law_2708 : decode cL_law 2708 = .ok (.invokestatic 334, 3) := by decide +kernel
theorem dL_law_2711 : decode cL_law 2711 = .ok (.istore 6, 2) := by decide +kernel
theorem dL_law_2713 : decode cL_law 2713 = .ok (.aload_n 2, 1) := by decide +kernel
theorem dL_law_2714 : decode cL_law 2714 = .ok (.aload_n 0, 1) := by decide +kernel
theorem dL_law_2715 : decode cL_law 2715 = .ok (.iload 5, 2) := by decide +kernel
theorem dL_law_2717 : decode cL_law 2717 = .ok (.iconst 1, 1) := by decide +kernel
theorem dL_law_2718 : decode cL_law 2718 = .ok (.iadd, 1) := by decide +kernel
theorem dL_law_2719 : decode cL_law 2719 = .ok (.iaload, 1) := by decide +kernel
theorem dL_law_2720 : decode cL_law 2720 = .ok (.invokevirtual 336, 3) := by decide +kernel
theorem dL_law_2723 : decode cL_law 2723 = .ok (.istore 7, 2) := by decide +kernel
theorem dL_law_2725 : decode cL_law 2725 = .ok (.aload_n 2, 1) := by decide +kernel
theorem dL_law_2726 : decode cL_law 2726 = .ok (.invokevirtual 184, 3) := by decide +kernel
theorem dL_law_2729 : decode cL_law 2729 = .ok (.iload 6, 2) := by decide +kernel
theorem dL_law_2731 : decode cL_law 2731 = .ok (.if_icmp .eq 5, 3) := by decide +kernel
theorem dL_law_2734 : decode cL_law 2734 = .ok (.iconst 0, 1) := by decide +kernel
theorem dL_law_2735 : decode cL_law 2735 = .ok (.ireturn, 1) := by decide +kernel
theorem dL_law_2736 : decode cL_law 2736 = .ok (.iload 6, 2) := by decide +kernel
theorem dL_law_2738 : decode cL_law 2738 = .ok (.ifCond .ne 15, 3) := by decide +kernel
theorem dL_law_2741 : decode cL_law 2741 = .ok (.aload_n 3, 1) := by decide +kernel
theorem dL_law_2742 : decode cL_law 2742 = .ok (.iconst 0, 1) := by decide +kernel
theorem dL_law_2743 : decode cL_law 2743 = .ok (.laload, 1) := by decide +kernel
theorem dL_law_2744 : decode cL_law 2744 = .ok (.iload 7, 2) := by decide +kernel
theorem dL_law_2746 : decode cL_law 2746 = .ok (.i2l, 1) := by decide +kernel
theorem dL_law_2747 : decode cL_law 2747 = .ok (.lcmp, 1) := by decide +kernel
theorem dL_law_2748 : decode cL_law 2748 = .ok (.ifCond .eq 5, 3) := by decide +kernel
theorem dL_law_2751 : decode cL_law 2751 = .ok (.iconst 0, 1) := by decide +kernel
theorem dL_law_2752 : decode cL_law 2752 = .ok (.ireturn, 1) := by decide +kernel
theorem dL_law_2753 : decode cL_law 2753 = .ok (.goto 615, 3) := by decide +kernel
theorem dL_law_2756 : decode cL_law 2756 = .ok (.aload_n 1, 1) := by decide +kernel
theorem dL_law_2757 : decode cL_law 2757 = .ok (.invokevirtual 337, 3) := by decide +kernel
theorem dL_law_2760 : decode cL_law 2760 = .ok (.aload_n 2, 1) := by decide +kernel
theorem dL_law_2761 : decode cL_law 2761 = .ok (.invokevirtual 340, 3) := by decide +kernel
theorem dL_law_2764 : decode cL_law 2764 = .ok (.if_icmp .eq 604, 3) := by decide +kernel
theorem dL_law_2767 : decode cL_law 2767 = .ok (.iconst 0, 1) := by decide +kernel
theorem dL_law_2768 : decode cL_law 2768 = .ok (.ireturn, 1) := by decide +kernel
theorem dL_law_2769 : decode cL_law 2769 = .ok (.aload_n 1, 1) := by decide +kernel
theorem dL_law_2770 : decode cL_law 2770 = .ok (.invokevirtual 341, 3) := by decide +kernel
theorem dL_law_2773 : decode cL_law 2773 = .ok (.aload_n 2, 1) := by decide +kernel
theorem dL_law_2774 : decode cL_law 2774 = .ok (.invokevirtual 344, 3) := by decide +kernel
theorem dL_law_2777 : decode cL_law 2777 = .ok (.if_icmp .eq 591, 3) := by decide +kernel
theorem dL_law_2780 : decode cL_law 2780 = .ok (.iconst 0, 1) := by decide +kernel
theorem dL_law_2781 : decode cL_law 2781 = .ok (.ireturn, 1) := by decide +kernel
theorem dL_law_2782 : decode cL_law 2782 = .ok (.aload_n 1, 1) := by decide +kernel
theorem dL_law_2783 : decode cL_law 2783 = .ok (.invokevirtual 345, 3) := by decide +kernel
theorem dL_law_2786 : decode cL_law 2786 = .ok (.aload_n 2, 1) := by decide +kernel
theorem dL_law_2787 : decode cL_law 2787 = .ok (.invokevirtual 348, 3) := by decide +kernel
theorem dL_law_2790 : decode cL_law 2790 = .ok (.if_icmp .eq 578, 3) := by decide +kernel
theorem dL_law_2793 : decode cL_law 2793 = .ok (.iconst 0, 1) := by decide +kernel
theorem dL_law_2794 : decode cL_law 2794 = .ok (.ireturn, 1) := by decide +kernel
theorem dL_law_2795 : decode cL_law 2795 = .ok (.aload_n 1, 1) := by decide +kernel
theorem dL_law_2796 : decode cL_law 2796 = .ok (.invokevirtual 349, 3) := by decide +kernel
theorem dL_law_2799 : decode cL_law 2799 = .ok (.aload_n 2, 1) := by decide +kernel
theorem dL_law_2800 : decode cL_law 2800 = .ok (.invokevirtual 352, 3) := by decide +kernel
theorem dL_law_2803 : decode cL_law 2803 = .ok (.if_icmp .eq 565, 3) := by decide +kernel
theorem dL_law_2806 : decode cL_law 2806 = .ok (.iconst 0, 1) := by decide +kernel
theorem dL_law_2807 : decode cL_law 2807 = .ok (.ireturn, 1) := by decide +kernel
theorem dL_law_2808 : decode cL_law 2808 = .ok (.aload_n 1, 1) := by decide +kernel
theorem dL_law_2809 : decode cL_law 2809 = .ok (.aload 4, 2) := by decide +kernel
theorem dL_law_2811 : decode cL_law 2811 = .ok (.invokestatic 353, 3) := by decide +kernel
theorem dL_law_2814 : decode cL_law 2814 = .ok (.istore 6, 2) := by decide +kernel
theorem dL_law_2816 : decode cL_law 2816 = .ok (.aload_n 2, 1) := by decide +kernel
theorem dL_law_2817 : decode cL_law 2817 = .ok (.invokevirtual 356, 3) := by decide +kernel
theorem dL_law_2820 : decode cL_law 2820 = .ok (.dstore 7, 2) := by decide +kernel
theorem dL_law_2822 : decode cL_law 2822 = .ok (.aload_n 2, 1) := by decide +kernel
theorem dL_law_2823 : decode cL_law 2823 = .ok (.invokevirtual 184, 3) := by decide +kernel
theorem dL_law_2826 : decode cL_law 2826 = .ok (.iload 6, 2) := by decide +kernel
theorem dL_law_2828 : decode cL_law 2828 = .ok (.if_icmp .eq 5, 3) := by decide +kernel
theorem dL_law_2831 : decode cL_law 2831 = .ok (.iconst 0, 1) := by decide +kernel
theorem dL_law_2832 : decode cL_law 2832 = .ok (.ireturn, 1) := by decide +kernel
theorem dL_law_2833 : decode cL_law 2833 = .ok (.iload 6, 2) := by decide +kernel
theorem dL_law_2835 : decode cL_law 2835 = .ok (.ifCond .ne 35, 3) := by decide +kernel
theorem dL_law_2838 : decode cL_law 2838 = .ok (.aload 4, 2) := by decide +kernel
theorem dL_law_2840 : decode cL_law 2840 = .ok (.iconst 0, 1) := by decide +kernel
theorem dL_law_2841 : decode cL_law 2841 = .ok (.daload, 1) := by decide +kernel
theorem dL_law_2842 : decode cL_law 2842 = .ok (.dload 7, 2) := by decide +kernel
theorem dL_law_2844 : decode cL_law 2844 = .ok (.dcmp .l, 1) := by decide +kernel
theorem dL_law_2845 : decode cL_law 2845 = .ok (.ifCond .eq 25, 3) := by decide +kernel
theorem dL_law_2848 : decode cL_law 2848 = .ok (.aload 4, 2) := by decide +kernel
theorem dL_law_2850 : decode cL_law 2850 = .ok (.iconst 0, 1) := by decide +kernel
theorem dL_law_2851 : decode cL_law 2851 = .ok (.daload, 1) := by decide +kernel
theorem dL_law_2852 : decode cL_law 2852 = .ok (.aload 4, 2) := by decide +kernel
theorem dL_law_2854 : decode cL_law 2854 = .ok (.iconst 0, 1) := by decide +kernel
theorem dL_law_2855 : decode cL_law 2855 = .ok (.daload, 1) := by decide +kernel
theorem dL_law_2856 : decode cL_law 2856 = .ok (.dcmp .l, 1) := by decide +kernel
theorem dL_law_2857 : decode cL_law 2857 = .ok (.ifCond .eq 11, 3) := by decide +kernel
theorem dL_law_2860 : decode cL_law 2860 = .ok (.dload 7, 2) := by decide +kernel
theorem dL_law_2862 : decode cL_law 2862 = .ok (.dload 7, 2) := by decide +kernel
theorem dL_law_2864 : decode cL_law 2864 = .ok (.dcmp .l, 1) := by decide +kernel
theorem dL_law_2865 : decode cL_law 2865 = .ok (.ifCond .ne 5, 3) := by decide +kernel
theorem dL_law_2868 : decode cL_law 2868 = .ok (.iconst 0, 1) := by decide +kernel
theorem dL_law_2869 : decode cL_law 2869 = .ok (.ireturn, 1) := by decide +kernel
theorem dL_law_2870 : decode cL_law 2870 = .ok (.goto 498, 3) := by decide +kernel
theorem dL_law_2873 : decode cL_law 2873 = .ok (.aload_n 1, 1) := by decide +kernel
theorem dL_law_2874 : decode cL_law 2874 = .ok (.aload 4, 2) := by decide +kernel
theorem dL_law_2876 : decode cL_law 2876 = .ok (.invokestatic 357, 3) := by decide +kernel
theorem dL_law_2879 : decode cL_law 2879 = .ok (.istore 6, 2) := by decide +kernel
theorem dL_law_2881 : decode cL_law 2881 = .ok (.aload_n 2, 1) := by decide +kernel
theorem dL_law_2882 : decode cL_law 2882 = .ok (.invokevirtual 359, 3) := by decide +kernel
theorem dL_law_2885 : decode cL_law 2885 = .ok (.fstore 7, 2) := by decide +kernel
theorem dL_law_2887 : decode cL_law 2887 = .ok (.aload_n 2, 1) := by decide +kernel
theorem dL_law_2888 : decode cL_law 2888 = .ok (.invokevirtual 184, 3) := by decide +kernel
theorem dL_law_2891 : decode cL_law 2891 = .ok (.iload 6, 2) := by decide +kernel
theorem dL_law_2893 : decode cL_law 2893 = .ok (.if_icmp .eq 5, 3) := by decide +kernel
theorem dL_law_2896 : decode cL_law 2896 = .ok (.iconst 0, 1) := by decide +kernel
theorem dL_law_2897 : decode cL_law 2897 = .ok (.ireturn, 1) := by decide +kernel
theorem dL_law_2898 : decode cL_law 2898 = .ok (.iload 6, 2) := by decide +kernel
theorem dL_law_2900 : decode cL_law 2900 = .ok (.ifCond .ne 36, 3) := by decide +kernel
theorem dL_law_2903 : decode cL_law 2903 = .ok (.aload 4, 2) := by decide +kernel
theorem dL_law_2905 : decode cL_law 2905 = .ok (.iconst 0, 1) := by decide +kernel
theorem dL_law_2906 : decode cL_law 2906 = .ok (.daload, 1) := by decide +kernel
theorem dL_law_2907 : decode cL_law 2907 = .ok (.fload 7, 2) := by decide +kernel
theorem dL_law_2909 : decode cL_law 2909 = .ok (.f2d, 1) := by decide +kernel
theorem dL_law_2910 : decode cL_law 2910 = .ok (.dcmp .l, 1) := by decide +kernel
theorem dL_law_2911 : decode cL_law 2911 = .ok (.ifCond .eq 25, 3) := by decide +kernel
theorem dL_law_2914 : decode cL_law 2914 = .ok (.aload 4, 2) := by decide +kernel
theorem dL_law_2916 : decode cL_law 2916 = .ok (.iconst 0, 1) := by decide +kernel
theorem dL_law_2917 : decode cL_law 2917 = .ok (.daload, 1) := by decide +kernel
theorem dL_law_2918 : decode cL_law 2918 = .ok (.aload 4, 2) := by decide +kernel
theorem dL_law_2920 : decode cL_law 2920 = .ok (.iconst 0, 1) := by decide +kernel
theorem dL_law_2921 : decode cL_law 2921 = .ok (.daload, 1) := by decide +kernel
theorem dL_law_2922 : decode cL_law 2922 = .ok (.dcmp .l, 1) := by decide +kernel
theorem dL_law_2923 : decode cL_law 2923 = .ok (.ifCond .eq 11, 3) := by decide +kernel
theorem dL_law_2926 : decode cL_law 2926 = .ok (.fload 7, 2) := by decide +kernel
theorem dL_law_2928 : decode cL_law 2928 = .ok (.fload 7, 2) := by decide +kernel
theorem dL_law_2930 : decode cL_law 2930 = .ok (.fcmp .l, 1) := by decide +kernel
theorem dL_law_2931 : decode cL_law 2931 = .ok (.ifCond .ne 5, 3) := by decide +kernel
theorem dL_law_2934 : decode cL_law 2934 = .ok (.iconst 0, 1) := by decide +kernel
theorem dL_law_2935 : decode cL_law 2935 = .ok (.ireturn, 1) := by decide +kernel
theorem dL_law_2936 : decode cL_law 2936 = .ok (.goto 432, 3) := by decide +kernel
theorem dL_law_2939 : decode cL_law 2939 = .ok (.aload_n 1, 1) := by decide +kernel
theorem dL_law_2940 : decode cL_law 2940 = .ok (.invokevirtual 360, 3) := by decide +kernel
theorem dL_law_2943 : decode cL_law 2943 = .ok (.aload_n 2, 1) := by decide +kernel
theorem dL_law_2944 : decode cL_law 2944 = .ok (.invokevirtual 364, 3) := by decide +kernel
theorem dL_law_2947 : decode cL_law 2947 = .ok (.if_icmp .eq 421, 3) := by decide +kernel
theorem dL_law_2950 : decode cL_law 2950 = .ok (.iconst 0, 1) := by decide +kernel
theorem dL_law_2951 : decode cL_law 2951 = .ok (.ireturn, 1) := by decide +kernel
theorem dL_law_2952 : decode cL_law 2952 = .ok (.aload_n 1, 1) := by decide +kernel
theorem dL_law_2953 : decode cL_law 2953 = .ok (.aload_n 0, 1) := by decide +kernel
theorem dL_law_2954 : decode cL_law 2954 = .ok (.iload 5, 2) := by decide +kernel
theorem dL_law_2956 : decode cL_law 2956 = .ok (.iconst 1, 1) := by decide +kernel
theorem dL_law_2957 : decode cL_law 2957 = .ok (.iadd, 1) := by decide +kernel
theorem dL_law_2958 : decode cL_law 2958 = .ok (.iaload, 1) := by decide +kernel
theorem dL_law_2959 : decode cL_law 2959 = .ok (.aload_n 3, 1) := by decide +kernel
theorem dL_law_2960 : decode cL_law 2960 = .ok (.invokestatic 365, 3) := by decide +kernel
theorem dL_law_2963 : decode cL_law 2963 = .ok (.istore 6, 2) := by decide +kernel
theorem dL_law_2965 : decode cL_law 2965 = .ok (.aload_n 2, 1) := by decide +kernel
theorem dL_law_2966 : decode cL_law 2966 = .ok (.aload_n 0, 1) := by decide +kernel
theorem dL_law_2967 : decode cL_law 2967 = .ok (.iload 5, 2) := by decide +kernel
theorem dL_law_2969 : decode cL_law 2969 = .ok (.iconst 1, 1) := by decide +kernel
theorem dL_law_2970 : decode cL_law 2970 = .ok (.iadd, 1) := by decide +kernel
theorem dL_law_2971 : decode cL_law 2971 = .ok (.iaload, 1) := by decide +kernel
theorem dL_law_2972 : decode cL_law 2972 = .ok (.invokevirtual 367, 3) := by decide +kernel
theorem dL_law_2975 : decode cL_law 2975 = .ok (.istore 7, 2) := by decide +kernel
theorem dL_law_2977 : decode cL_law 2977 = .ok (.aload_n 2, 1) := by decide +kernel
theorem dL_law_2978 : decode cL_law 2978 = .ok (.invokevirtual 184, 3) := by decide +kernel
theorem dL_law_2981 : decode cL_law 2981 = .ok (.iload 6, 2) := by decide +kernel
theorem dL_law_2983 : decode cL_law 2983 = .ok (.if_icmp .eq 5, 3) := by decide +kernel
theorem dL_law_2986 : decode cL_law 2986 = .ok (.iconst 0, 1) := by decide +kernel
theorem dL_law_2987 : decode cL_law 2987 = .ok (.ireturn, 1) := by decide +kernel
theorem dL_law_2988 : decode cL_law 2988 = .ok (.iload 6, 2) := by decide +kernel
theorem dL_law_2990 : decode cL_law 2990 = .ok (.ifCond .ne 15, 3) := by decide +kernel
theorem dL_law_2993 : decode cL_law 2993 = .ok (.aload_n 3, 1) := by decide +kernel
theorem dL_law_2994 : decode cL_law 2994 = .ok (.iconst 0, 1) := by decide +kernel
theorem dL_law_2995 : decode cL_law 2995 = .ok (.laload, 1) := by decide +kernel
theorem dL_law_2996 : decode cL_law 2996 = .ok (.iload 7, 2) := by decide +kernel
theorem dL_law_2998 : decode cL_law 2998 = .ok (.i2l, 1) := by decide +kernel
theorem dL_law_2999 : decode cL_law 2999 = .ok (.lcmp, 1) := by decide +kernel
theorem dL_law_3000 : decode cL_law 3000 = .ok (.ifCond .eq 5, 3) := by decide +kernel
theorem dL_law_3003 : decode cL_law 3003 = .ok (.iconst 0, 1) := by decide +kernel
theorem dL_law_3004 : decode cL_law 3004 = .ok (.ireturn, 1) := by decide +kernel
theorem dL_law_3005 : decode cL_law 3005 = .ok (.goto 363, 3) := by decide +kernel
theorem dL_law_3008 : decode cL_law 3008 = .ok (.aload_n 1, 1) := by decide +kernel
theorem dL_law_3009 : decode cL_law 3009 = .ok (.aload_n 0, 1) := by decide +kernel
theorem dL_law_3010 : decode cL_law 3010 = .ok (.iload 5, 2) := by decide +kernel
theorem dL_law_3012 : decode cL_law 3012 = .ok (.iconst 1, 1) := by decide +kernel
theorem dL_law_3013 : decode cL_law 3013 = .ok (.iadd, 1) := by decide +kernel
theorem dL_law_3014 : decode cL_law 3014 = .ok (.iaload, 1) := by decide +kernel
theorem dL_law_3015 : decode cL_law 3015 = .ok (.aload_n 3, 1) := by decide +kernel
theorem dL_law_3016 : decode cL_law 3016 = .ok (.invokestatic 368, 3) := by decide +kernel
theorem dL_law_3019 : decode cL_law 3019 = .ok (.istore 6, 2) := by decide +kernel
theorem dL_law_3021 : decode cL_law 3021 = .ok (.aload_n 2, 1) := by decide +kernel
theorem dL_law_3022 : decode cL_law 3022 = .ok (.aload_n 0, 1) := by decide +kernel
theorem dL_law_3023 : decode cL_law 3023 = .ok (.iload 5, 2) := by decide +kernel
theorem dL_law_3025 : decode cL_law 3025 = .ok (.iconst 1, 1) := by decide +kernel
theorem dL_law_3026 : decode cL_law 3026 = .ok (.iadd, 1) := by decide +kernel
theorem dL_law_3027 : decode cL_law 3027 = .ok (.iaload, 1) := by decide +kernel
theorem dL_law_3028 : decode cL_law 3028 = .ok (.invokevirtual 370, 3) := by decide +kernel
theorem dL_law_3031 : decode cL_law 3031 = .ok (.istore 7, 2) := by decide +kernel
theorem dL_law_3033 : decode cL_law 3033 = .ok (.aload_n 2, 1) := by decide +kernel
theorem dL_law_3034 : decode cL_law 3034 = .ok (.invokevirtual 184, 3) := by decide +kernel
theorem dL_law_3037 : decode cL_law 3037 = .ok (.iload 6, 2) := by decide +kernel
theorem dL_law_3039 : decode cL_law 3039 = .ok (.if_icmp .eq 5, 3) := by decide +kernel
theorem dL_law_3042 : decode cL_law 3042 = .ok (.iconst 0, 1) := by decide +kernel
theorem dL_law_3043 : decode cL_law 3043 = .ok (.ireturn, 1) := by decide +kernel
theorem dL_law_3044 : decode cL_law 3044 = .ok (.iload 6, 2) := by decide +kernel
theorem dL_law_3046 : decode cL_law 3046 = .ok (.ifCond .ne 15, 3) := by decide +kernel
theorem dL_law_3049 : decode cL_law 3049 = .ok (.aload_n 3, 1) := by decide +kernel
theorem dL_law_3050 : decode cL_law 3050 = .ok (.iconst 0, 1) := by decide +kernel
theorem dL_law_3051 : decode cL_law 3051 = .ok (.laload, 1) := by decide +kernel
theorem dL_law_3052 : decode cL_law 3052 = .ok (.iload 7, 2) := by decide +kernel
theorem dL_law_3054 : decode cL_law 3054 = .ok (.i2l, 1) := by decide +kernel
theorem dL_law_3055 : decode cL_law 3055 = .ok (.lcmp, 1) := by decide +kernel
theorem dL_law_3056 : decode cL_law 3056 = .ok (.ifCond .eq 5, 3) := by decide +kernel
theorem dL_law_3059 : decode cL_law 3059 = .ok (.iconst 0, 1) := by decide +kernel
theorem dL_law_3060 : decode cL_law 3060 = .ok (.ireturn, 1) := by decide +kernel
theorem dL_law_3061 : decode cL_law 3061 = .ok (.goto 307, 3) := by decide +kernel
theorem dL_law_3064 : decode cL_law 3064 = .ok (.aload_n 1, 1) := by decide +kernel
theorem dL_law_3065 : decode cL_law 3065 = .ok (.aload_n 0, 1) := by decide +kernel
theorem dL_law_3066 : decode cL_law 3066 = .ok (.iload 5, 2) := by decide +kernel
theorem dL_law_3068 : decode cL_law 3068 = .ok (.iconst 1, 1) := by decide +kernel
theorem dL_law_3069 : decode cL_law 3069 = .ok (.iadd, 1) := by decide +kernel
theorem dL_law_3070 : decode cL_law 3070 = .ok (.iaload, 1) := by decide +kernel
theorem dL_law_3071 : decode cL_law 3071 = .ok (.i2c, 1) := by decide +kernel
theorem dL_law_3072 : decode cL_law 3072 = .ok (.aload_n 3, 1) := by decide +kernel
theorem dL_law_3073 : decode cL_law 3073 = .ok (.invokestatic 371, 3) := by decide +kernel
theorem dL_law_3076 : decode cL_law 3076 = .ok (.istore 6, 2) := by decide +kernel
theorem dL_law_3078 : decode cL_law 3078 = .ok (.aload_n 2, 1) := by decide +kernel
theorem dL_law_3079 : decode cL_law 3079 = .ok (.aload_n 0, 1) := by decide +kernel
theorem dL_law_3080 : decode cL_law 3080 = .ok (.iload 5, 2) := by decide +kernel
theorem dL_law_3082 : decode cL_law 3082 = .ok (.iconst 1, 1) := by decide +kernel
theorem dL_law_3083 : decode cL_law 3083 = .ok (.iadd, 1) := by decide +kernel
theorem dL_law_3084 : decode cL_law 3084 = .ok (.iaload, 1) := by decide +kernel
theorem dL_law_3085 : decode cL_law 3085 = .ok (.i2c, 1) := by decide +kernel
theorem dL_law_3086 : decode cL_law 3086 = .ok (.invokevirtual 374, 3) := by decide +kernel
theorem dL_law_3089 : decode cL_law 3089 = .ok (.istore 7, 2) := by decide +kernel
theorem dL_law_3091 : decode cL_law 3091 = .ok (.aload_n 2, 1) := by decide +kernel
theorem dL_law_3092 : decode cL_law 3092 = .ok (.invokevirtual 184, 3) := by decide +kernel
theorem dL_law_3095 : decode cL_law 3095 = .ok (.iload 6, 2) := by decide +kernel
theorem dL_law_3097 : decode cL_law 3097 = .ok (.if_icmp .eq 5, 3) := by decide +kernel
theorem dL_law_3100 : decode cL_law 3100 = .ok (.iconst 0, 1) := by decide +kernel
theorem dL_law_3101 : decode cL_law 3101 = .ok (.ireturn, 1) := by decide +kernel
theorem dL_law_3102 : decode cL_law 3102 = .ok (.iload 6, 2) := by decide +kernel
theorem dL_law_3104 : decode cL_law 3104 = .ok (.ifCond .ne 15, 3) := by decide +kernel
theorem dL_law_3107 : decode cL_law 3107 = .ok (.aload_n 3, 1) := by decide +kernel
theorem dL_law_3108 : decode cL_law 3108 = .ok (.iconst 0, 1) := by decide +kernel
theorem dL_law_3109 : decode cL_law 3109 = .ok (.laload, 1) := by decide +kernel
theorem dL_law_3110 : decode cL_law 3110 = .ok (.iload 7, 2) := by decide +kernel
theorem dL_law_3112 : decode cL_law 3112 = .ok (.i2l, 1) := by decide +kernel
theorem dL_law_3113 : decode cL_law 3113 = .ok (.lcmp, 1) := by decide +kernel
theorem dL_law_3114 : decode cL_law 3114 = .ok (.ifCond .eq 5, 3) := by decide +kernel
theorem dL_law_3117 : decode cL_law 3117 = .ok (.iconst 0, 1) := by decide +kernel
theorem dL_law_3118 : decode cL_law 3118 = .ok (.ireturn, 1) := by decide +kernel
theorem dL_law_3119 : decode cL_law 3119 = .ok (.goto 249, 3) := by decide +kernel
theorem dL_law_3122 : decode cL_law 3122 = .ok (.aload_n 1, 1) := by decide +kernel
theorem dL_law_3123 : decode cL_law 3123 = .ok (.aload_n 3, 1) := by decide +kernel
theorem dL_law_3124 : decode cL_law 3124 = .ok (.invokestatic 375, 3) := by decide +kernel
theorem dL_law_3127 : decode cL_law 3127 = .ok (.istore 6, 2) := by decide +kernel
theorem dL_law_3129 : decode cL_law 3129 = .ok (.aload_n 2, 1) := by decide +kernel
theorem dL_law_3130 : decode cL_law 3130 = .ok (.invokevirtual 378, 3) := by decide +kernel
theorem dL_law_3133 : decode cL_law 3133 = .ok (.istore 7, 2) := by decide +kernel
theorem dL_law_3135 : decode cL_law 3135 = .ok (.aload_n 2, 1) := by decide +kernel
theorem dL_law_3136 : decode cL_law 3136 = .ok (.invokevirtual 184, 3) := by decide +kernel
theorem dL_law_3139 : decode cL_law 3139 = .ok (.iload 6, 2) := by decide +kernel
theorem dL_law_3141 : decode cL_law 3141 = .ok (.if_icmp .eq 5, 3) := by decide +kernel
theorem dL_law_3144 : decode cL_law 3144 = .ok (.iconst 0, 1) := by decide +kernel
theorem dL_law_3145 : decode cL_law 3145 = .ok (.ireturn, 1) := by decide +kernel
theorem dL_law_3146 : decode cL_law 3146 = .ok (.iload 6, 2) := by decide +kernel
theorem dL_law_3148 : decode cL_law 3148 = .ok (.ifCond .ne 15, 3) := by decide +kernel
theorem dL_law_3151 : decode cL_law 3151 = .ok (.aload_n 3, 1) := by decide +kernel
theorem dL_law_3152 : decode cL_law 3152 = .ok (.iconst 0, 1) := by decide +kernel
theorem dL_law_3153 : decode cL_law 3153 = .ok (.laload, 1) := by decide +kernel
theorem dL_law_3154 : decode cL_law 3154 = .ok (.iload 7, 2) := by decide +kernel
theorem dL_law_3156 : decode cL_law 3156 = .ok (.i2l, 1) := by decide +kernel
theorem dL_law_3157 : decode cL_law 3157 = .ok (.lcmp, 1) := by decide +kernel
theorem dL_law_3158 : decode cL_law 3158 = .ok (.ifCond .eq 5, 3) := by decide +kernel
theorem dL_law_3161 : decode cL_law 3161 = .ok (.iconst 0, 1) := by decide +kernel
theorem dL_law_3162 : decode cL_law 3162 = .ok (.ireturn, 1) := by decide +kernel
theorem dL_law_3163 : decode cL_law 3163 = .ok (.goto 205, 3) := by decide +kernel
theorem dL_law_3166 : decode cL_law 3166 = .ok (.aload_n 1, 1) := by decide +kernel
theorem dL_law_3167 : decode cL_law 3167 = .ok (.aload_n 3, 1) := by decide +kernel
theorem dL_law_3168 : decode cL_law 3168 = .ok (.invokestatic 379, 3) := by decide +kernel
theorem dL_law_3171 : decode cL_law 3171 = .ok (.istore 6, 2) := by decide +kernel
theorem dL_law_3173 : decode cL_law 3173 = .ok (.aload_n 2, 1) := by decide +kernel
theorem dL_law_3174 : decode cL_law 3174 = .ok (.invokevirtual 381, 3) := by decide +kernel
theorem dL_law_3177 : decode cL_law 3177 = .ok (.istore 7, 2) := by decide +kernel
theorem dL_law_3179 : decode cL_law 3179 = .ok (.aload_n 2, 1) := by decide +kernel
theorem dL_law_3180 : decode cL_law 3180 = .ok (.invokevirtual 184, 3) := by decide +kernel
theorem dL_law_3183 : decode cL_law 3183 = .ok (.iload 6, 2) := by decide +kernel
theorem dL_law_3185 : decode cL_law 3185 = .ok (.if_icmp .eq 5, 3) := by decide +kernel
theorem dL_law_3188 : decode cL_law 3188 = .ok (.iconst 0, 1) := by decide +kernel
theorem dL_law_3189 : decode cL_law 3189 = .ok (.ireturn, 1) := by decide +kernel
theorem dL_law_3190 : decode cL_law 3190 = .ok (.iload 6, 2) := by decide +kernel
theorem dL_law_3192 : decode cL_law 3192 = .ok (.ifCond .ne 15, 3) := by decide +kernel
theorem dL_law_3195 : decode cL_law 3195 = .ok (.aload_n 3, 1) := by decide +kernel
theorem dL_law_3196 : decode cL_law 3196 = .ok (.iconst 0, 1) := by decide +kernel
theorem dL_law_3197 : decode cL_law 3197 = .ok (.laload, 1) := by decide +kernel
theorem dL_law_3198 : decode cL_law 3198 = .ok (.iload 7, 2) := by decide +kernel
theorem dL_law_3200 : decode cL_law 3200 = .ok (.i2l, 1) := by decide +kernel
theorem dL_law_3201 : decode cL_law 3201 = .ok (.lcmp, 1) := by decide +kernel
theorem dL_law_3202 : decode cL_law 3202 = .ok (.ifCond .eq 5, 3) := by decide +kernel
theorem dL_law_3205 : decode cL_law 3205 = .ok (.iconst 0, 1) := by decide +kernel
theorem dL_law_3206 : decode cL_law 3206 = .ok (.ireturn, 1) := by decide +kernel
theorem dL_law_3207 : decode cL_law 3207 = .ok (.goto 161, 3) := by decide +kernel
theorem dL_law_3210 : decode cL_law 3210 = .ok (.aload_n 1, 1) := by decide +kernel
theorem dL_law_3211 : decode cL_law 3211 = .ok (.aload_n 3, 1) := by decide +kernel
theorem dL_law_3212 : decode cL_law 3212 = .ok (.invokestatic 382, 3) := by decide +kernel
theorem dL_law_3215 : decode cL_law 3215 = .ok (.istore 6, 2) := by decide +kernel
theorem dL_law_3217 : decode cL_law 3217 = .ok (.aload_n 2, 1) := by decide +kernel
theorem dL_law_3218 : decode cL_law 3218 = .ok (.invokevirtual 384, 3) := by decide +kernel
theorem dL_law_3221 : decode cL_law 3221 = .ok (.istore 7, 2) := by decide +kernel
theorem dL_law_3223 : decode cL_law 3223 = .ok (.aload_n 2, 1) := by decide +kernel
theorem dL_law_3224 : decode cL_law 3224 = .ok (.invokevirtual 184, 3) := by decide +kernel
theorem dL_law_3227 : decode cL_law 3227 = .ok (.iload 6, 2) := by decide +kernel
theorem dL_law_3229 : decode cL_law 3229 = .ok (.if_icmp .eq 5, 3) := by decide +kernel
theorem dL_law_3232 : decode cL_law 3232 = .ok (.iconst 0, 1) := by decide +kernel
theorem dL_law_3233 : decode cL_law 3233 = .ok (.ireturn, 1) := by decide +kernel
theorem dL_law_3234 : decode cL_law 3234 = .ok (.iload 6, 2) := by decide +kernel
theorem dL_law_3236 : decode cL_law 3236 = .ok (.ifCond .ne 15, 3) := by decide +kernel
theorem dL_law_3239 : decode cL_law 3239 = .ok (.aload_n 3, 1) := by decide +kernel
theorem dL_law_3240 : decode cL_law 3240 = .ok (.iconst 0, 1) := by decide +kernel
theorem dL_law_3241 : decode cL_law 3241 = .ok (.laload, 1) := by decide +kernel
theorem dL_law_3242 : decode cL_law 3242 = .ok (.iload 7, 2) := by decide +kernel
theorem dL_law_3244 : decode cL_law 3244 = .ok (.i2l, 1) := by decide +kernel
theorem dL_law_3245 : decode cL_law 3245 = .ok (.lcmp, 1) := by decide +kernel
theorem dL_law_3246 : decode cL_law 3246 = .ok (.ifCond .eq 5, 3) := by decide +kernel
theorem dL_law_3249 : decode cL_law 3249 = .ok (.iconst 0, 1) := by decide +kernel
theorem dL_law_3250 : decode cL_law 3250 = .ok (.ireturn, 1) := by decide +kernel
theorem dL_law_3251 : decode cL_law 3251 = .ok (.goto 117, 3) := by decide +kernel
theorem dL_law_3254 : decode cL_law 3254 = .ok (.aload_n 1, 1) := by decide +kernel
theorem dL_law_3255 : decode cL_law 3255 = .ok (.invokevirtual 385, 3) := by decide +kernel
theorem dL_law_3258 : decode cL_law 3258 = .ok (.aload_n 2, 1) := by decide +kernel
theorem dL_law_3259 : decode cL_law 3259 = .ok (.invokevirtual 388, 3) := by decide +kernel
theorem dL_law_3262 : decode cL_law 3262 = .ok (.if_icmp .eq 106, 3) := by decide +kernel
theorem dL_law_3265 : decode cL_law 3265 = .ok (.iconst 0, 1) := by decide +kernel
theorem dL_law_3266 : decode cL_law 3266 = .ok (.ireturn, 1) := by decide +kernel
theorem dL_law_3267 : decode cL_law 3267 = .ok (.aload_n 1, 1) := by decide +kernel
theorem dL_law_3268 : decode cL_law 3268 = .ok (.aload_n 3, 1) := by decide +kernel
theorem dL_law_3269 : decode cL_law 3269 = .ok (.invokestatic 389, 3) := by decide +kernel
theorem dL_law_3272 : decode cL_law 3272 = .ok (.istore 6, 2) := by decide +kernel
theorem dL_law_3274 : decode cL_law 3274 = .ok (.aload_n 2, 1) := by decide +kernel
theorem dL_law_3275 : decode cL_law 3275 = .ok (.invokevirtual 391, 3) := by decide +kernel
theorem dL_law_3278 : decode cL_law 3278 = .ok (.istore 7, 2) := by decide +kernel
theorem dL_law_3280 : decode cL_law 3280 = .ok (.aload_n 2, 1) := by decide +kernel
theorem dL_law_3281 : decode cL_law 3281 = .ok (.invokevirtual 184, 3) := by decide +kernel
theorem dL_law_3284 : decode cL_law 3284 = .ok (.iload 6, 2) := by decide +kernel
theorem dL_law_3286 : decode cL_law 3286 = .ok (.if_icmp .eq 5, 3) := by decide +kernel
theorem dL_law_3289 : decode cL_law 3289 = .ok (.iconst 0, 1) := by decide +kernel
theorem dL_law_3290 : decode cL_law 3290 = .ok (.ireturn, 1) := by decide +kernel
theorem dL_law_3291 : decode cL_law 3291 = .ok (.iload 6, 2) := by decide +kernel
theorem dL_law_3293 : decode cL_law 3293 = .ok (.ifCond .ne 15, 3) := by decide +kernel
theorem dL_law_3296 : decode cL_law 3296 = .ok (.aload_n 3, 1) := by decide +kernel
theorem dL_law_3297 : decode cL_law 3297 = .ok (.iconst 0, 1) := by decide +kernel
theorem dL_law_3298 : decode cL_law 3298 = .ok (.laload, 1) := by decide +kernel
theorem dL_law_3299 : decode cL_law 3299 = .ok (.iload 7, 2) := by decide +kernel
theorem dL_law_3301 : decode cL_law 3301 = .ok (.i2l, 1) := by decide +kernel
theorem dL_law_3302 : decode cL_law 3302 = .ok (.lcmp, 1) := by decide +kernel
theorem dL_law_3303 : decode cL_law 3303 = .ok (.ifCond .eq 5, 3) := by decide +kernel
theorem dL_law_3306 : decode cL_law 3306 = .ok (.iconst 0, 1) := by decide +kernel
theorem dL_law_3307 : decode cL_law 3307 = .ok (.ireturn, 1) := by decide +kernel
theorem dL_law_3308 : decode cL_law 3308 = .ok (.goto 60, 3) := by decide +kernel
theorem dL_law_3311 : decode cL_law 3311 = .ok (.aload_n 1, 1) := by decide +kernel
theorem dL_law_3312 : decode cL_law 3312 = .ok (.invokevirtual 392, 3) := by decide +kernel
theorem dL_law_3315 : decode cL_law 3315 = .ok (.aload_n 2, 1) := by decide +kernel
theorem dL_law_3316 : decode cL_law 3316 = .ok (.invokevirtual 395, 3) := by decide +kernel
theorem dL_law_3319 : decode cL_law 3319 = .ok (.if_icmp .eq 49, 3) := by decide +kernel
theorem dL_law_3322 : decode cL_law 3322 = .ok (.iconst 0, 1) := by decide +kernel
theorem dL_law_3323 : decode cL_law 3323 = .ok (.ireturn, 1) := by decide +kernel
theorem dL_law_3324 : decode cL_law 3324 = .ok (.aload_n 1, 1) := by decide +kernel
theorem dL_law_3325 : decode cL_law 3325 = .ok (.aload_n 3, 1) := by decide +kernel
theorem dL_law_3326 : decode cL_law 3326 = .ok (.invokestatic 396, 3) := by decide +kernel
theorem dL_law_3329 : decode cL_law 3329 = .ok (.istore 6, 2) := by decide +kernel
theorem dL_law_3331 : decode cL_law 3331 = .ok (.aload_n 2, 1) := by decide +kernel
theorem dL_law_3332 : decode cL_law 3332 = .ok (.invokevirtual 398, 3) := by decide +kernel
theorem dL_law_3335 : decode cL_law 3335 = .ok (.istore 7, 2) := by decide +kernel
theorem dL_law_3337 : decode cL_law 3337 = .ok (.aload_n 2, 1) := by decide +kernel
theorem dL_law_3338 : decode cL_law 3338 = .ok (.invokevirtual 184, 3) := by decide +kernel
theorem dL_law_3341 : decode cL_law 3341 = .ok (.iload 6, 2) := by decide +kernel
theorem dL_law_3343 : decode cL_law 3343 = .ok (.if_icmp .eq 5, 3) := by decide +kernel
theorem dL_law_3346 : decode cL_law 3346 = .ok (.iconst 0, 1) := by decide +kernel
theorem dL_law_3347 : decode cL_law 3347 = .ok (.ireturn, 1) := by decide +kernel
theorem dL_law_3348 : decode cL_law 3348 = .ok (.iload 6, 2) := by decide +kernel
theorem dL_law_3350 : decode cL_law 3350 = .ok (.ifCond .ne 15, 3) := by decide +kernel
theorem dL_law_3353 : decode cL_law 3353 = .ok (.aload_n 3, 1) := by decide +kernel
theorem dL_law_3354 : decode cL_law 3354 = .ok (.iconst 0, 1) := by decide +kernel
theorem dL_law_3355 : decode cL_law 3355 = .ok (.laload, 1) := by decide +kernel
theorem dL_law_3356 : decode cL_law 3356 = .ok (.iload 7, 2) := by decide +kernel
theorem dL_law_3358 : decode cL_law 3358 = .ok (.i2l, 1) := by decide +kernel
theorem dL_law_3359 : decode cL_law 3359 = .ok (.lcmp, 1) := by decide +kernel
theorem dL_law_3360 : decode cL_law 3360 = .ok (.ifCond .eq 5, 3) := by decide +kernel
theorem dL_law_3363 : decode cL_law 3363 = .ok (.iconst 0, 1) := by decide +kernel
theorem dL_law_3364 : decode cL_law 3364 = .ok (.ireturn, 1) := by decide +kernel
theorem dL_law_3365 : decode cL_law 3365 = .ok (.goto 3, 3) := by decide +kernel
theorem dL_law_3368 : decode cL_law 3368 = .ok (.iinc 5 4, 3) := by decide +kernel
theorem dL_law_3371 : decode cL_law 3371 = .ok (.goto (-3343), 3) := by decide +kernel
theorem dL_law_3374 : decode cL_law 3374 = .ok (.iconst 1, 1) := by decide +kernel
theorem dL_law_3375 : decode cL_law 3375 = .ok (.ireturn, 1) := by decide +kernel
