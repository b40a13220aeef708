/-! THE LAW: its instructions, 3 of 4 -/
theorem dL_law_2019 : decode cL_law 2019 = .ok (.iload 5, 2) := by decide +kernel
theorem dL_law_2021 : decode cL_law 2021 = .ok (.iconst 1, 1) := by decide +kernel
theorem dL_law_2022 : decode cL_law 2022 = .ok (.iadd, 1) := by decide +kernel
theorem dL_law_2023 : decode cL_law 2023 = .ok (.iaload, 1) := by decide +kernel
theorem dL_law_2024 : decode cL_law 2024 = .ok (.invokevirtual 300, 3) := by decide +kernel
theorem dL_law_2027 : decode cL_law 2027 = .ok (.istore 7, 2) := by decide +kernel
theorem dL_law_2029 : decode cL_law 2029 = .ok (.aload_n 2, 1) := by decide +kernel
theorem dL_law_2030 : decode cL_law 2030 = .ok (.invokevirtual 184, 3) := by decide +kernel
theorem dL_law_2033 : decode cL_law 2033 = .ok (.iload 6, 2) := by decide +kernel
theorem dL_law_2035 : decode cL_law 2035 = .ok (.if_icmp .eq 5, 3) := by decide +kernel
theorem dL_law_2038 : decode cL_law 2038 = .ok (.iconst 0, 1) := by decide +kernel
theorem dL_law_2039 : decode cL_law 2039 = .ok (.ireturn, 1) := by decide +kernel
theorem dL_law_2040 : decode cL_law 2040 = .ok (.iload 6, 2) := by decide +kernel
theorem dL_law_2042 : decode cL_law 2042 = .ok (.ifCond .ne 15, 3) := by decide +kernel
theorem dL_law_2045 : decode cL_law 2045 = .ok (.aload_n 3, 1) := by decide +kernel
theorem dL_law_2046 : decode cL_law 2046 = .ok (.iconst 0, 1) := by decide +kernel
theorem dL_law_2047 : decode cL_law 2047 = .ok (.laload, 1) := by decide +kernel
theorem dL_law_2048 : decode cL_law 2048 = .ok (.iload 7, 2) := by decide +kernel
theorem dL_law_2050 : decode cL_law 2050 = .ok (.i2l, 1) := by decide +kernel
theorem dL_law_2051 : decode cL_law 2051 = .ok (.lcmp, 1) := by decide +kernel
theorem dL_law_2052 : decode cL_law 2052 = .ok (.ifCond .eq 5, 3) := by decide +kernel
theorem dL_law_2055 : decode cL_law 2055 = .ok (.iconst 0, 1) := by decide +kernel
theorem dL_law_2056 : decode cL_law 2056 = .ok (.ireturn, 1) := by decide +kernel
theorem dL_law_2057 : decode cL_law 2057 = .ok (.goto 1311, 3) := by decide +kernel
theorem dL_law_2060 : decode cL_law 2060 = .ok (.aload_n 1, 1) := by decide +kernel
theorem dL_law_2061 : decode cL_law 2061 = .ok (.aload_n 0, 1) := by decide +kernel
theorem dL_law_2062 : decode cL_law 2062 = .ok (.iload 5, 2) := by decide +kernel
theorem dL_law_2064 : decode cL_law 2064 = .ok (.iconst 1, 1) := by decide +kernel
theorem dL_law_2065 : decode cL_law 2065 = .ok (.iadd, 1) := by decide +kernel
theorem dL_law_2066 : decode cL_law 2066 = .ok (.iaload, 1) := by decide +kernel
theorem dL_law_2067 : decode cL_law 2067 = .ok (.aload_n 0, 1) := by decide +kernel
theorem dL_law_2068 : decode cL_law 2068 = .ok (.iload 5, 2) := by decide +kernel
theorem dL_law_2070 : decode cL_law 2070 = .ok (.iconst 2, 1) := by decide +kernel
theorem dL_law_2071 : decode cL_law 2071 = .ok (.iadd, 1) := by decide +kernel
theorem dL_law_2072 : decode cL_law 2072 = .ok (.iaload, 1) := by decide +kernel
theorem dL_law_2073 : decode cL_law 2073 = .ok (.aload_n 3, 1) := by decide +kernel
theorem dL_law_2074 : decode cL_law 2074 = .ok (.invokestatic 301, 3) := by decide +kernel
theorem dL_law_2077 : decode cL_law 2077 = .ok (.istore 6, 2) := by decide +kernel
theorem dL_law_2079 : decode cL_law 2079 = .ok (.aload_n 2, 1) := by decide +kernel
theorem dL_law_2080 : decode cL_law 2080 = .ok (.aload_n 0, 1) := by decide +kernel
theorem dL_law_2081 : decode cL_law 2081 = .ok (.iload 5, 2) := by decide +kernel
theorem dL_law_2083 : decode cL_law 2083 = .ok (.iconst 1, 1) := by decide +kernel
theorem dL_law_2084 : decode cL_law 2084 = .ok (.iadd, 1) := by decide +kernel
theorem dL_law_2085 : decode cL_law 2085 = .ok (.iaload, 1) := by decide +kernel
theorem dL_law_2086 : decode cL_law 2086 = .ok (.aload_n 0, 1) := by decide +kernel
theorem dL_law_2087 : decode cL_law 2087 = .ok (.iload 5, 2) := by decide +kernel
theorem dL_law_2089 : decode cL_law 2089 = .ok (.iconst 2, 1) := by decide +kernel
theorem dL_law_2090 : decode cL_law 2090 = .ok (.iadd, 1) := by decide +kernel
theorem dL_law_2091 : decode cL_law 2091 = .ok (.iaload, 1) := by decide +kernel
theorem dL_law_2092 : decode cL_law 2092 = .ok (.invokevirtual 303, 3) := by decide +kernel
theorem dL_law_2095 : decode cL_law 2095 = .ok (.istore 7, 2) := by decide +kernel
theorem dL_law_2097 : decode cL_law 2097 = .ok (.aload_n 2, 1) := by decide +kernel
theorem dL_law_2098 : decode cL_law 2098 = .ok (.invokevirtual 184, 3) := by decide +kernel
theorem dL_law_2101 : decode cL_law 2101 = .ok (.iload 6, 2) := by decide +kernel
theorem dL_law_2103 : decode cL_law 2103 = .ok (.if_icmp .eq 5, 3) := by decide +kernel
theorem dL_law_2106 : decode cL_law 2106 = .ok (.iconst 0, 1) := by decide +kernel
theorem dL_law_2107 : decode cL_law 2107 = .ok (.ireturn, 1) := by decide +kernel
theorem dL_law_2108 : decode cL_law 2108 = .ok (.iload 6, 2) := by decide +kernel
theorem dL_law_2110 : decode cL_law 2110 = .ok (.ifCond .ne 15, 3) := by decide +kernel
theorem dL_law_2113 : decode cL_law 2113 = .ok (.aload_n 3, 1) := by decide +kernel
theorem dL_law_2114 : decode cL_law 2114 = .ok (.iconst 0, 1) := by decide +kernel
theorem dL_law_2115 : decode cL_law 2115 = .ok (.laload, 1) := by decide +kernel
theorem dL_law_2116 : decode cL_law 2116 = .ok (.iload 7, 2) := by decide +kernel
theorem dL_law_2118 : decode cL_law 2118 = .ok (.i2l, 1) := by decide +kernel
theorem dL_law_2119 : decode cL_law 2119 = .ok (.lcmp, 1) := by decide +kernel
theorem dL_law_2120 : decode cL_law 2120 = .ok (.ifCond .eq 5, 3) := by decide +kernel
theorem dL_law_2123 : decode cL_law 2123 = .ok (.iconst 0, 1) := by decide +kernel
theorem dL_law_2124 : decode cL_law 2124 = .ok (.ireturn, 1) := by decide +kernel
theorem dL_law_2125 : decode cL_law 2125 = .ok (.goto 1243, 3) := by decide +kernel
theorem dL_law_2128 : decode cL_law 2128 = .ok (.aload_n 1, 1) := by decide +kernel
theorem dL_law_2129 : decode cL_law 2129 = .ok (.aload_n 0, 1) := by decide +kernel
theorem dL_law_2130 : decode cL_law 2130 = .ok (.iload 5, 2) := by decide +kernel
theorem dL_law_2132 : decode cL_law 2132 = .ok (.iconst 1, 1) := by decide +kernel
theorem dL_law_2133 : decode cL_law 2133 = .ok (.iadd, 1) := by decide +kernel
theorem dL_law_2134 : decode cL_law 2134 = .ok (.iaload, 1) := by decide +kernel
theorem dL_law_2135 : decode cL_law 2135 = .ok (.aload_n 0, 1) := by decide +kernel
theorem dL_law_2136 : decode cL_law 2136 = .ok (.iload 5, 2) := by decide +kernel
theorem dL_law_2138 : decode cL_law 2138 = .ok (.iconst 2, 1) := by decide +kernel
theorem dL_law_2139 : decode cL_law 2139 = .ok (.iadd, 1) := by decide +kernel
theorem dL_law_2140 : decode cL_law 2140 = .ok (.iaload, 1) := by decide +kernel
theorem dL_law_2141 : decode cL_law 2141 = .ok (.aload_n 3, 1) := by decide +kernel
theorem dL_law_2142 : decode cL_law 2142 = .ok (.invokestatic 304, 3) := by decide +kernel
theorem dL_law_2145 : decode cL_law 2145 = .ok (.istore 6, 2) := by decide +kernel
theorem dL_law_2147 : decode cL_law 2147 = .ok (.aload_n 2, 1) := by decide +kernel
theorem dL_law_2148 : decode cL_law 2148 = .ok (.aload_n 0, 1) := by decide +kernel
theorem dL_law_2149 : decode cL_law 2149 = .ok (.iload 5, 2) := by decide +kernel
theorem dL_law_2151 : decode cL_law 2151 = .ok (.iconst 1, 1) := by decide +kernel
theorem dL_law_2152 : decode cL_law 2152 = .ok (.iadd, 1) := by decide +kernel
theorem dL_law_2153 : decode cL_law 2153 = .ok (.iaload, 1) := by decide +kernel
theorem dL_law_2154 : decode cL_law 2154 = .ok (.aload_n 0, 1) := by decide +kernel
theorem dL_law_2155 : decode cL_law 2155 = .ok (.iload 5, 2) := by decide +kernel
theorem dL_law_2157 : decode cL_law 2157 = .ok (.iconst 2, 1) := by decide +kernel
theorem dL_law_2158 : decode cL_law 2158 = .ok (.iadd, 1) := by decide +kernel
theorem dL_law_2159 : decode cL_law 2159 = .ok (.iaload, 1) := by decide +kernel
theorem dL_law_2160 : decode cL_law 2160 = .ok (.invokevirtual 306, 3) := by decide +kernel
theorem dL_law_2163 : decode cL_law 2163 = .ok (.istore 7, 2) := by decide +kernel
theorem dL_law_2165 : decode cL_law 2165 = .ok (.aload_n 2, 1) := by decide +kernel
theorem dL_law_2166 : decode cL_law 2166 = .ok (.invokevirtual 184, 3) := by decide +kernel
theorem dL_law_2169 : decode cL_law 2169 = .ok (.iload 6, 2) := by decide +kernel
theorem dL_law_2171 : decode cL_law 2171 = .ok (.if_icmp .eq 5, 3) := by decide +kernel
theorem dL_law_2174 : decode cL_law 2174 = .ok (.iconst 0, 1) := by decide +kernel
theorem dL_law_2175 : decode cL_law 2175 = .ok (.ireturn, 1) := by decide +kernel
theorem dL_law_2176 : decode cL_law 2176 = .ok (.iload 6, 2) := by decide +kernel
theorem dL_law_2178 : decode cL_law 2178 = .ok (.ifCond .ne 15, 3) := by decide +kernel
theorem dL_law_2181 : decode cL_law 2181 = .ok (.aload_n 3, 1) := by decide +kernel
theorem dL_law_2182 : decode cL_law 2182 = .ok (.iconst 0, 1) := by decide +kernel
theorem dL_law_2183 : decode cL_law 2183 = .ok (.laload, 1) := by decide +kernel
theorem dL_law_2184 : decode cL_law 2184 = .ok (.iload 7, 2) := by decide +kernel
theorem dL_law_2186 : decode cL_law 2186 = .ok (.i2l, 1) := by decide +kernel
theorem dL_law_2187 : decode cL_law 2187 = .ok (.lcmp, 1) := by decide +kernel
theorem dL_law_2188 : decode cL_law 2188 = .ok (.ifCond .eq 5, 3) := by decide +kernel
theorem dL_law_2191 : decode cL_law 2191 = .ok (.iconst 0, 1) := by decide +kernel
theorem dL_law_2192 : decode cL_law 2192 = .ok (.ireturn, 1) := by decide +kernel
theorem dL_law_2193 : decode cL_law 2193 = .ok (.goto 1175, 3) := by decide +kernel
theorem dL_law_2196 : decode cL_law 2196 = .ok (.aload_n 1, 1) := by decide +kernel
theorem dL_law_2197 : decode cL_law 2197 = .ok (.aload_n 0, 1) := by decide +kernel
theorem dL_law_2198 : decode cL_law 2198 = .ok (.iload 5, 2) := by decide +kernel
theorem dL_law_2200 : decode cL_law 2200 = .ok (.iconst 1, 1) := by decide +kernel
theorem dL_law_2201 : decode cL_law 2201 = .ok (.iadd, 1) := by decide +kernel
theorem dL_law_2202 : decode cL_law 2202 = .ok (.iaload, 1) := by decide +kernel
theorem dL_law_2203 : decode cL_law 2203 = .ok (.aload_n 3, 1) := by decide +kernel
theorem dL_law_2204 : decode cL_law 2204 = .ok (.invokestatic 307, 3) := by decide +kernel
theorem dL_law_2207 : decode cL_law 2207 = .ok (.istore 6, 2) := by decide +kernel
theorem dL_law_2209 : decode cL_law 2209 = .ok (.aload_n 2, 1) := by decide +kernel
theorem dL_law_2210 : decode cL_law 2210 = .ok (.aload_n 0, 1) := by decide +kernel
theorem dL_law_2211 : decode cL_law 2211 = .ok (.iload 5, 2) := by decide +kernel
theorem dL_law_2213 : decode cL_law 2213 = .ok (.iconst 1, 1) := by decide +kernel
theorem dL_law_2214 : decode cL_law 2214 = .ok (.iadd, 1) := by decide +kernel
theorem dL_law_2215 : decode cL_law 2215 = .ok (.iaload, 1) := by decide +kernel
theorem dL_law_2216 : decode cL_law 2216 = .ok (.invokevirtual 309, 3) := by decide +kernel
theorem dL_law_2219 : decode cL_law 2219 = .ok (.istore 7, 2) := by decide +kernel
theorem dL_law_2221 : decode cL_law 2221 = .ok (.aload_n 2, 1) := by decide +kernel
theorem dL_law_2222 : decode cL_law 2222 = .ok (.invokevirtual 184, 3) := by decide +kernel
theorem dL_law_2225 : decode cL_law 2225 = .ok (.iload 6, 2) := by decide +kernel
theorem dL_law_2227 : decode cL_law 2227 = .ok (.if_icmp .eq 5, 3) := by decide +kernel
theorem dL_law_2230 : decode cL_law 2230 = .ok (.iconst 0, 1) := by decide +kernel
theorem dL_law_2231 : decode cL_law 2231 = .ok (.ireturn, 1) := by decide +kernel
theorem dL_law_2232 : decode cL_law 2232 = .ok (.iload 6, 2) := by decide +kernel
theorem dL_law_2234 : decode cL_law 2234 = .ok (.ifCond .ne 15, 3) := by decide +kernel
theorem dL_law_2237 : decode cL_law 2237 = .ok (.aload_n 3, 1) := by decide +kernel
theorem dL_law_2238 : decode cL_law 2238 = .ok (.iconst 0, 1) := by decide +kernel
theorem dL_law_2239 : decode cL_law 2239 = .ok (.laload, 1) := by decide +kernel
theorem dL_law_2240 : decode cL_law 2240 = .ok (.iload 7, 2) := by decide +kernel
theorem dL_law_2242 : decode cL_law 2242 = .ok (.i2l, 1) := by decide +kernel
theorem dL_law_2243 : decode cL_law 2243 = .ok (.lcmp, 1) := by decide +kernel
theorem dL_law_2244 : decode cL_law 2244 = .ok (.ifCond .eq 5, 3) := by decide +kernel
theorem dL_law_2247 : decode cL_law 2247 = .ok (.iconst 0, 1) := by decide +kernel
theorem dL_law_2248 : decode cL_law 2248 = .ok (.ireturn, 1) := by decide +kernel
theorem dL_law_2249 : decode cL_law 2249 = .ok (.goto 1119, 3) := by decide +kernel
theorem dL_law_2252 : decode cL_law 2252 = .ok (.aload_n 1, 1) := by decide +kernel
theorem dL_law_2253 : decode cL_law 2253 = .ok (.aload_n 0, 1) := by decide +kernel
theorem dL_law_2254 : decode cL_law 2254 = .ok (.iload 5, 2) := by decide +kernel
theorem dL_law_2256 : decode cL_law 2256 = .ok (.iconst 1, 1) := by decide +kernel
theorem dL_law_2257 : decode cL_law 2257 = .ok (.iadd, 1) := by decide +kernel
theorem dL_law_2258 : decode cL_law 2258 = .ok (.iaload, 1) := by decide +kernel
theorem dL_law_2259 : decode cL_law 2259 = .ok (.aload_n 3, 1) := by decide +kernel
theorem dL_law_2260 : decode cL_law 2260 = .ok (.invokestatic 310, 3) := by decide +kernel
theorem dL_law_2263 : decode cL_law 2263 = .ok (.istore 6, 2) := by decide +kernel
theorem dL_law_2265 : decode cL_law 2265 = .ok (.aload_n 2, 1) := by decide +kernel
theorem dL_law_2266 : decode cL_law 2266 = .ok (.aload_n 0, 1) := by decide +kernel
theorem dL_law_2267 : decode cL_law 2267 = .ok (.iload 5, 2) := by decide +kernel
theorem dL_law_2269 : decode cL_law 2269 = .ok (.iconst 1, 1) := by decide +kernel
theorem dL_law_2270 : decode cL_law 2270 = .ok (.iadd, 1) := by decide +kernel
theorem dL_law_2271 : decode cL_law 2271 = .ok (.iaload, 1) := by decide +kernel
theorem dL_law_2272 : decode cL_law 2272 = .ok (.invokevirtual 312, 3) := by decide +kernel
theorem dL_law_2275 : decode cL_law 2275 = .ok (.istore 7, 2) := by decide +kernel
theorem dL_law_2277 : decode cL_law 2277 = .ok (.aload_n 2, 1) := by decide +kernel
theorem dL_law_2278 : decode cL_law 2278 = .ok (.invokevirtual 184, 3) := by decide +kernel
theorem dL_law_2281 : decode cL_law 2281 = .ok (.iload 6, 2) := by decide +kernel
theorem dL_law_2283 : decode cL_law 2283 = .ok (.if_icmp .eq 5, 3) := by decide +kernel
theorem dL_law_2286 : decode cL_law 2286 = .ok (.iconst 0, 1) := by decide +kernel
theorem dL_law_2287 : decode cL_law 2287 = .ok (.ireturn, 1) := by decide +kernel
theorem dL_law_2288 : decode cL_law 2288 = .ok (.iload 6, 2) := by decide +kernel
theorem dL_law_2290 : decode cL_law 2290 = .ok (.ifCond .ne 15, 3) := by decide +kernel
theorem dL_law_2293 : decode cL_law 2293 = .ok (.aload_n 3, 1) := by decide +kernel
theorem dL_law_2294 : decode cL_law 2294 = .ok (.iconst 0, 1) := by decide +kernel
theorem dL_law_2295 : decode cL_law 2295 = .ok (.laload, 1) := by decide +kernel
theorem dL_law_2296 : decode cL_law 2296 = .ok (.iload 7, 2) := by decide +kernel
theorem dL_law_2298 : decode cL_law 2298 = .ok (.i2l, 1) := by decide +kernel
theorem dL_law_2299 : decode cL_law 2299 = .ok (.lcmp, 1) := by decide +kernel
theorem dL_law_2300 : decode cL_law 2300 = .ok (.ifCond .eq 5, 3) := by decide +kernel
theorem dL_law_2303 : decode cL_law 2303 = .ok (.iconst 0, 1) := by decide +kernel
theorem dL_law_2304 : decode cL_law 2304 = .ok (.ireturn, 1) := by decide +kernel
theorem dL_law_2305 : decode cL_law 2305 = .ok (.goto 1063, 3) := by decide +kernel
theorem dL_law_2308 : decode cL_law 2308 = .ok (.aload_n 1, 1) := by decide +kernel
theorem dL_law_2309 : decode cL_law 2309 = .ok (.aload_n 0, 1) := by decide +kernel
theorem dL_law_2310 : decode cL_law 2310 = .ok (.iload 5, 2) := by decide +kernel
theorem dL_law_2312 : decode cL_law 2312 = .ok (.iconst 1, 1) := by decide +kernel
theorem dL_law_2313 : decode cL_law 2313 = .ok (.iadd, 1) := by decide +kernel
theorem dL_law_2314 : decode cL_law 2314 = .ok (.iaload, 1) := by decide +kernel
theorem dL_law_2315 : decode cL_law 2315 = .ok (.aload_n 3, 1) := by decide +kernel
theorem dL_law_2316 : decode cL_law 2316 = .ok (.invokestatic 313, 3) := by decide +kernel
theorem dL_law_2319 : decode cL_law 2319 = .ok (.istore 6, 2) := by decide +kernel
theorem dL_law_2321 : decode cL_law 2321 = .ok (.aload_n 2, 1) := by decide +kernel
theorem dL_law_2322 : decode cL_law 2322 = .ok (.aload_n 0, 1) := by decide +kernel
theorem dL_law_2323 : decode cL_law 2323 = .ok (.iload 5, 2) := by decide +kernel
theorem dL_law_2325 : decode cL_law 2325 = .ok (.iconst 1, 1) := by decide +kernel
theorem dL_law_2326 : decode cL_law 2326 = .ok (.iadd, 1) := by decide +kernel
theorem dL_law_2327 : decode cL_law 2327 = .ok (.iaload, 1) := by decide +kernel
theorem dL_law_2328 : decode cL_law 2328 = .ok (.invokevirtual 315, 3) := by decide +kernel
theorem dL_law_2331 : decode cL_law 2331 = .ok (.istore 7, 2) := by decide +kernel
theorem dL_law_2333 : decode cL_law 2333 = .ok (.aload_n 2, 1) := by decide +kernel
theorem dL_law_2334 : decode cL_law 2334 = .ok (.invokevirtual 184, 3) := by decide +kernel
theorem dL_law_2337 : decode cL_law 2337 = .ok (.iload 6, 2) := by decide +kernel
theorem dL_law_2339 : decode cL_law 2339 = .ok (.if_icmp .eq 5, 3) := by decide +kernel
theorem dL_law_2342 : decode cL_law 2342 = .ok (.iconst 0, 1) := by decide +kernel
theorem dL_law_2343 : decode cL_law 2343 = .ok (.ireturn, 1) := by decide +kernel
theorem dL_law_2344 : decode cL_law 2344 = .ok (.iload 6, 2) := by decide +kernel
theorem dL_law_2346 : decode cL_law 2346 = .ok (.ifCond .ne 15, 3) := by decide +kernel
theorem dL_law_2349 : decode cL_law 2349 = .ok (.aload_n 3, 1) := by decide +kernel
theorem dL_law_2350 : decode cL_law 2350 = .ok (.iconst 0, 1) := by decide +kernel
theorem dL_law_2351 : decode cL_law 2351 = .ok (.laload, 1) := by decide +kernel
theorem dL_law_2352 : decode cL_law 2352 = .ok (.iload 7, 2) := by decide +kernel
theorem dL_law_2354 : decode cL_law 2354 = .ok (.i2l, 1) := by decide +kernel
theorem dL_law_2355 : decode cL_law 2355 = .ok (.lcmp, 1) := by decide +kernel
theorem dL_law_2356 : decode cL_law 2356 = .ok (.ifCond .eq 5, 3) := by decide +kernel
theorem dL_law_2359 : decode cL_law 2359 = .ok (.iconst 0, 1) := by decide +kernel
theorem dL_law_2360 : decode cL_law 2360 = .ok (.ireturn, 1) := by decide +kernel
theorem dL_law_2361 : decode cL_law 2361 = .ok (.goto 1007, 3) := by decide +kernel
theorem dL_law_2364 : decode cL_law 2364 = .ok (.aload_n 1, 1) := by decide +kernel
theorem dL_law_2365 : decode cL_law 2365 = .ok (.aload_n 0, 1) := by decide +kernel
theorem dL_law_2366 : decode cL_law 2366 = .ok (.iload 5, 2) := by decide +kernel
theorem dL_law_2368 : decode cL_law 2368 = .ok (.iconst 1, 1) := by decide +kernel
theorem dL_law_2369 : decode cL_law 2369 = .ok (.iadd, 1) := by decide +kernel
theorem dL_law_2370 : decode cL_law 2370 = .ok (.iaload, 1) := by decide +kernel
theorem dL_law_2371 : decode cL_law 2371 = .ok (.aload_n 3, 1) := by decide +kernel
theorem dL_law_2372 : decode cL_law 2372 = .ok (.invokestatic 316, 3) := by decide +kernel
theorem dL_law_2375 : decode cL_law 2375 = .ok (.istore 6, 2) := by decide +kernel
theorem dL_law_2377 : decode cL_law 2377 = .ok (.aload_n 2, 1) := by decide +kernel
theorem dL_law_2378 : decode cL_law 2378 = .ok (.aload_n 0, 1) := by decide +kernel
theorem dL_law_2379 : decode cL_law 2379 = .ok (.iload 5, 2) := by decide +kernel
theorem dL_law_2381 : decode cL_law 2381 = .ok (.iconst 1, 1) := by decide +kernel
theorem dL_law_2382 : decode cL_law 2382 = .ok (.iadd, 1) := by decide +kernel
theorem dL_law_2383 : decode cL_law 2383 = .ok (.iaload, 1) := by decide +kernel
theorem dL_law_2384 : decode cL_law 2384 = .ok (.invokevirtual 318, 3) := by decide +kernel
theorem dL_law_2387 : decode cL_law 2387 = .ok (.istore 7, 2) := by decide +kernel
theorem dL_law_2389 : decode cL_law 2389 = .ok (.aload_n 2, 1) := by decide +kernel
theorem dL_law_2390 : decode cL_law 2390 = .ok (.invokevirtual 184, 3) := by decide +kernel
theorem dL_law_2393 : decode cL_law 2393 = .ok (.iload 6, 2) := by decide +kernel
theorem dL_law_2395 : decode cL_law 2395 = .ok (.if_icmp .eq 5, 3) := by decide +kernel
theorem dL_law_2398 : decode cL_law 2398 = .ok (.iconst 0, 1) := by decide +kernel
theorem dL_law_2399 : decode cL_law 2399 = .ok (.ireturn, 1) := by decide +kernel
theorem dL_law_2400 : decode cL_law 2400 = .ok (.iload 6, 2) := by decide +kernel
theorem dL_law_2402 : decode cL_law 2402 = .ok (.ifCond .ne 15, 3) := by decide +kernel
theorem dL_law_2405 : decode cL_law 2405 = .ok (.aload_n 3, 1) := by decide +kernel
theorem dL_law_2406 : decode cL_law 2406 = .ok (.iconst 0, 1) := by decide +kernel
theorem dL_law_2407 : decode cL_law 2407 = .ok (.laload, 1) := by decide +kernel
theorem dL_law_2408 : decode cL_law 2408 = .ok (.iload 7, 2) := by decide +kernel
theorem dL_law_2410 : decode cL_law 2410 = .ok (.i2l, 1) := by decide +kernel
theorem dL_law_2411 : decode cL_law 2411 = .ok (.lcmp, 1) := by decide +kernel
theorem dL_law_2412 : decode cL_law 2412 = .ok (.ifCond .eq 5, 3) := by decide +kernel
theorem dL_law_2415 : decode cL_law 2415 = .ok (.iconst 0, 1) := by decide +kernel
theorem dL_law_2416 : decode cL_law 2416 = .ok (.ireturn, 1) := by decide +kernel
theorem dL_law_2417 : decode cL_law 2417 = .ok (.goto 951, 3) := by decide +kernel
theorem dL_law_2420 : decode cL_law 2420 = .ok (.aload_n 1, 1) := by decide +kernel
theorem dL_law_2421 : decode cL_law 2421 = .ok (.aload_n 0, 1) := by decide +kernel
theorem dL_law_2422 : decode cL_law 2422 = .ok (.iload 5, 2) := by decide +kernel
theorem dL_law_2424 : decode cL_law 2424 = .ok (.iconst 1, 1) := by decide +kernel
theorem dL_law_2425 : decode cL_law 2425 = .ok (.iadd, 1) := by decide +kernel
theorem dL_law_2426 : decode cL_law 2426 = .ok (.iaload, 1) := by decide +kernel
theorem dL_law_2427 : decode cL_law 2427 = .ok (.aload_n 3, 1) := by decide +kernel
theorem dL_law_2428 : decode cL_law 2428 = .ok (.invokestatic 319, 3) := by decide +kernel
theorem dL_law_2431 : decode cL_law 2431 = .ok (.istore 6, 2) := by decide +kernel
theorem dL_law_2433 : decode cL_law 2433 = .ok (.aload_n 2, 1) := by decide +kernel
theorem dL_law_2434 : decode cL_law 2434 = .ok (.aload_n 0, 1) := by decide +kernel
theorem dL_law_2435 : decode cL_law 2435 = .ok (.iload 5, 2) := by decide +kernel
theorem dL_law_2437 : decode cL_law 2437 = .ok (.iconst 1, 1) := by decide +kernel
theorem dL_law_2438 : decode cL_law 2438 = .ok (.iadd, 1) := by decide +kernel
theorem dL_law_2439 : decode cL_law 2439 = .ok (.iaload, 1) := by decide +kernel
theorem dL_law_2440 : decode cL_law 2440 = .ok (.invokevirtual 321, 3) := by decide +kernel
theorem dL_law_2443 : decode cL_law 2443 = .ok (.istore 7, 2) := by decide +kernel
theorem dL_law_2445 : decode cL_law 2445 = .ok (.aload_n 2, 1) := by decide +kernel
theorem dL_law_2446 : decode cL_law 2446 = .ok (.invokevirtual 184, 3) := by decide +kernel
theorem dL_law_2449 : decode cL_law 2449 = .ok (.iload 6, 2) := by decide +kernel
theorem dL_law_2451 : decode cL_law 2451 = .ok (.if_icmp .eq 5, 3) := by decide +kernel
theorem dL_law_2454 : decode cL_law 2454 = .ok (.iconst 0, 1) := by decide +kernel
theorem dL_law_2455 : decode cL_law 2455 = .ok (.ireturn, 1) := by decide +kernel
theorem dL_law_2456 : decode cL_law 2456 = .ok (.iload 6, 2) := by decide +kernel
theorem dL_law_2458 : decode cL_law 2458 = .ok (.ifCond .ne 15, 3) := by decide +kernel
theorem dL_law_2461 : decode cL_law 2461 = .ok (.aload_n 3, 1) := by decide +kernel
theorem dL_law_2462 : decode cL_law 2462 = .ok (.iconst 0, 1) := by decide +kernel
theorem dL_law_2463 : decode cL_law 2463 = .ok (.laload, 1) := by decide +kernel
theorem dL_law_2464 : decode cL_law 2464 = .ok (.iload 7, 2) := by decide +kernel
theorem dL_law_2466 : decode cL_law 2466 = .ok (.i2l, 1) := by decide +kernel
theorem dL_law_2467 : decode cL_law 2467 = .ok (.lcmp, 1) := by decide +kernel
theorem dL_law_2468 : decode cL_law 2468 = .ok (.ifCond .eq 5, 3) := by decide +kernel
theorem dL_law_2471 : decode cL_law 2471 = .ok (.iconst 0, 1) := by decide +kernel
theorem dL_law_2472 : decode cL_law 2472 = .ok (.ireturn, 1) := by decide +kernel
theorem dL_law_2473 : decode cL_law 2473 = .ok (.goto 895, 3) := by decide +kernel
theorem dL_law_2476 : decode cL_law 2476 = .ok (.aload_n 1, 1) := by decide +kernel
theorem dL_law_2477 : decode cL_law 2477 = .ok (.aload_n 0, 1) := by decide +kernel
theorem dL_law_2478 : decode cL_law 2478 = .ok (.iload 5, 2) := by decide +kernel
theorem dL_law_2480 : decode cL_law 2480 = .ok (.iconst 1, 1) := by decide +kernel
theorem dL_law_2481 : decode cL_law 2481 = .ok (.iadd, 1) := by decide +kernel
theorem dL_law_2482 : decode cL_law 2482 = .ok (.iaload, 1) := by decide +kernel
theorem dL_law_2483 : decode cL_law 2483 = .ok (.aload_n 3, 1) := by decide +kernel
theorem dL_law_2484 : decode cL_law 2484 = .ok (.invokestatic 322, 3) := by decide +kernel
theorem dL_law_2487 : decode cL_law 2487 = .ok (.istore 6, 2) := by decide +kernel
theorem dL_law_2489 : decode cL_law 2489 = .ok (.aload_n 2, 1) := by decide +kernel
theorem dL_law_2490 : decode cL_law 2490 = .ok (.aload_n 0, 1) := by decide +kernel
theorem dL_law_2491 : decode cL_law 2491 = .ok (.iload 5, 2) := by decide +kernel
theorem dL_law_2493 : decode cL_law 2493 = .ok (.iconst 1, 1) := by decide +kernel
theorem dL_law_2494 : decode cL_law 2494 = .ok (.iadd, 1) := by decide +kernel
theorem dL_law_2495 : decode cL_law 2495 = .ok (.iaload, 1) := by decide +kernel
theorem dL_law_2496 : decode cL_law 2496 = .ok (.invokevirtual 324, 3) := by decide +kernel
theorem dL_law_2499 : decode cL_law 2499 = .ok (.istore 7, 2) := by decide +kernel
theorem dL_law_2501 : decode cL_law 2501 = .ok (.aload_n 2, 1) := by decide +kernel
theorem dL_law_2502 : decode cL_law 2502 = .ok (.invokevirtual 184, 3) := by decide +kernel
theorem dL_law_2505 : decode cL_law 2505 = .ok (.iload 6, 2) := by decide +kernel
theorem dL_law_2507 : decode cL_law 2507 = .ok (.if_icmp .eq 5, 3) := by decide +kernel
theorem dL_law_2510 : decode cL_law 2510 = .ok (.iconst 0, 1) := by decide +kernel
theorem dL_law_2511 : decode cL_law 2511 = .ok (.ireturn, 1) := by decide +kernel
theorem dL_law_2512 : decode cL_law 2512 = .ok (.iload 6, 2) := by decide +kernel
theorem dL_law_2514 : decode cL_law 2514 = .ok (.ifCond .ne 15, 3) := by decide +kernel
theorem dL_law_2517 : decode cL_law 2517 = .ok (.aload_n 3, 1) := by decide +kernel
theorem dL_law_2518 : decode cL_law 2518 = .ok (.iconst 0, 1) := by decide +kernel
theorem dL_law_2519 : decode cL_law 2519 = .ok (.laload, 1) := by decide +kernel
theorem dL_law_2520 : decode cL_law 2520 = .ok (.iload 7, 2) := by decide +kernel
theorem dL_law_2522 : decode cL_law 2522 = .ok (.i2l, 1) := by decide +kernel
theorem dL_law_2523 : decode cL_law 2523 = .ok (.lcmp, 1) := by decide +kernel
theorem dL_law_2524 : decode cL_law 2524 = .ok (.ifCond .eq 5, 3) := by decide +kernel
theorem dL_law_2527 : decode cL_law 2527 = .ok (.iconst 0, 1) := by decide +kernel
theorem dL_law_2528 : decode cL_law 2528 = .ok (.ireturn, 1) := by decide +kernel
theorem dL_law_2529 : decode cL_law 2529 = .ok (.goto 839, 3) := by decide +kernel
theorem dL_law_2532 : decode cL_law 2532 = .ok (.aload_n 1, 1) := by decide +kernel
theorem dL_law_2533 : decode cL_law 2533 = .ok (.aload_n 0, 1) := by decide +kernel
theorem dL_law_2534 : decode cL_law 2534 = .ok (.iload 5, 2) := by decide +kernel
theorem dL_law_2536 : decode cL_law 2536 = .ok (.iconst 1, 1) := by decide +kernel
theorem dL_law_2537 : decode cL_law 2537 = .ok (.iadd, 1) := by decide +kernel
theorem dL_law_2538 : decode cL_law 2538 = .ok (.iaload, 1) := by decide +kernel
theorem dL_law_2539 : decode cL_law 2539 = .ok (.aload_n 3, 1) := by decide +kernel
theorem dL_law_2540 : decode cL_law 2540 = .ok (.invokestatic 325, 3) := by decide +kernel
theorem dL_law_2543 : decode cL_law 2543 = .ok (.istore 6, 2) := by decide +kernel
theorem dL_law_2545 : decode cL_law 2545 = .ok (.aload_n 2, 1) := by decide +kernel
theorem dL_law_2546 : decode cL_law 2546 = .ok (.aload_n 0, 1) := by decide +kernel
theorem dL_law_2547 : decode cL_law 2547 = .ok (.iload 5, 2) := by decide +kernel
theorem dL_law_2549 : decode cL_law 2549 = .ok (.iconst 1, 1) := by decide +kernel
theorem dL_law_2550 : decode cL_law 2550 = .ok (.iadd, 1) := by decide +kernel
theorem dL_law_2551 : decode cL_law 2551 = .ok (.iaload, 1) := by decide +kernel
theorem dL_law_2552 : decode cL_law 2552 = .ok (.invokevirtual 327, 3) := by decide +kernel
theorem dL_law_2555 : decode cL_law 2555 = .ok (.istore 7, 2) := by decide +kernel
theorem dL_law_2557 : decode cL_law 2557 = .ok (.aload_n 2, 1) := by decide +kernel
theorem dL_law_2558 : decode cL_law 2558 = .ok (.invokevirtual 184, 3) := by decide +kernel
theorem dL_law_2561 : decode cL_law 2561 = .ok (.iload 6, 2) := by decide +kernel
theorem dL_law_2563 : decode cL_law 2563 = .ok (.if_icmp .eq 5, 3) := by decide +kernel
theorem dL_law_2566 : decode cL_law 2566 = .ok (.iconst 0, 1) := by decide +kernel
theorem dL_law_2567 : decode cL_law 2567 = .ok (.ireturn, 1) := by decide +kernel
theorem dL_law_2568 : decode cL_law 2568 = .ok (.iload 6, 2) := by decide +kernel
theorem dL_law_2570 : decode cL_law 2570 = .ok (.ifCond .ne 15, 3) := by decide +kernel
theorem dL_law_2573 : decode cL_law 2573 = .ok (.aload_n 3, 1) := by decide +kernel
theorem dL_law_2574 : decode cL_law 2574 = .ok (.iconst 0, 1) := by decide +kernel
theorem dL_law_2575 : decode cL_law 2575 = .ok (.laload, 1) := by decide +kernel
theorem dL_law_2576 : decode cL_law 2576 = .ok (.iload 7, 2) := by decide +kernel
theorem dL_law_2578 : decode cL_law 2578 = .ok (.i2l, 1) := by decide +kernel
theorem dL_law_2579 : decode cL_law 2579 = .ok (.lcmp, 1) := by decide +kernel
theorem dL_law_2580 : decode cL_law 2580 = .ok (.ifCond .eq 5, 3) := by decide +kernel
theorem dL_law_2583 : decode cL_law 2583 = .ok (.iconst 0, 1) := by decide +kernel
theorem dL_law_2584 : decode cL_law 2584 = .ok (.ireturn, 1) := by decide +kernel
theorem dL_law_2585 : decode cL_law 2585 = .ok (.goto 783, 3) := by decide +kernel
theorem dL_law_2588 : decode cL_law 2588 = .ok (.aload_n 1, 1) := by decide +kernel
theorem dL_law_2589 : decode cL_law 2589 = .ok (.aload_n 0, 1) := by decide +kernel
theorem dL_law_2590 : decode cL_law 2590 = .ok (.iload 5, 2) := by decide +kernel
theorem dL_law_2592 : decode cL_law 2592 = .ok (.iconst 1, 1) := by decide +kernel
theorem dL_law_2593 : decode cL_law 2593 = .ok (.iadd, 1) := by decide +kernel
theorem dL_law_2594 : decode cL_law 2594 = .ok (.iaload, 1) := by decide +kernel
theorem dL_law_2595 : decode cL_law 2595 = .ok (.aload_n 3, 1) := by decide +kernel
theorem dL_law_2596 : decode cL_law 2596 = .ok (.invokestatic 328, 3) := by decide +kernel
theorem dL_law_2599 : decode cL_law 2599 = .ok (.istore 6, 2) := by decide +kernel
theorem dL_law_2601 : decode cL_law 2601 = .ok (.aload_n 2, 1) := by decide +kernel
theorem dL_law_2602 : decode cL_law 2602 = .ok (.aload_n 0, 1) := by decide +kernel
theorem dL_law_2603 : decode cL_law 2603 = .ok (.iload 5, 2) := by decide +kernel
theorem dL_law_2605 : decode cL_law 2605 = .ok (.iconst 1, 1) := by decide +kernel
theorem dL_law_2606 : decode cL_law 2606 = .ok (.iadd, 1) := by decide +kernel
theorem dL_law_2607 : decode cL_law 2607 = .ok (.iaload, 1) := by decide +kernel
theorem dL_law_2608 : decode cL_law 2608 = .ok (.invokevirtual 330, 3) := by decide +kernel
theorem dL_law_2611 : decode cL_law 2611 = .ok (.istore 7, 2) := by decide +kernel
theorem dL_law_2613 : decode cL_law 2613 = .ok (.aload_n 2, 1) := by decide +kernel
theorem dL_law_2614 : decode cL_law 2614 = .ok (.invokevirtual 184, 3) := by decide +kernel
theorem dL_law_2617 : decode cL_law 2617 = .ok (.iload 6, 2) := by decide +kernel
theorem dL_law_2619 : decode cL_law 2619 = .ok (.if_icmp .eq 5, 3) := by decide +kernel
theorem dL_law_2622 : decode cL_law 2622 = .ok (.iconst 0, 1) := by decide +kernel
theorem dL_law_2623 : decode cL_law 2623 = .ok (.ireturn, 1) := by decide +kernel
theorem dL_law_2624 : decode cL_law 2624 = .ok (.iload 6, 2) := by decide +kernel
theorem dL_law_2626 : decode cL_law 2626 = .ok (.ifCond .ne 15, 3) := by decide +kernel
theorem dL_law_2629 : decode cL_law 2629 = .ok (.aload_n 3, 1) := by decide +kernel
theorem dL_law_2630 : decode cL_law 2630 = .ok (.iconst 0, 1) := by decide +kernel
theorem dL_law_2631 : decode cL_law 2631 = .ok (.laload, 1) := by decide +kernel
theorem dL_law_2632 : decode cL_law 2632 = .ok (.iload 7, 2) := by decide +kernel
theorem dL_law_2634 : decode cL_law 2634 = .ok (.i2l, 1) := by decide +kernel
theorem dL_law_2635 : decode cL_law 2635 = .ok (.lcmp, 1) := by decide +kernel
theorem dL_law_2636 : decode cL_law 2636 = .ok (.ifCond .eq 5, 3) := by decide +kernel
theorem dL_law_2639 : decode cL_law 2639 = .ok (.iconst 0, 1) := by decide +kernel
theorem dL_law_2640 : decode cL_law 2640 = .ok (.ireturn, 1) := by decide +kernel
theorem dL_law_2641 : decode cL_law 2641 = .ok (.goto 727, 3) := by decide +kernel
theorem dL_law_2644 : decode cL_law 2644 = .ok (.aload_n 1, 1) := by decide +kernel
theorem dL_law_2645 : decode cL_law 2645 = .ok (.aload_n 0, 1) := by decide +kernel
theorem dL_law_2646 : decode cL_law 2646 = .ok (.iload 5, 2) := by decide +kernel
theorem dL_law_2648 : decode cL_law 2648 = .ok (.iconst 1, 1) := by decide +kernel
theorem dL_law_2649 : decode cL_law 2649 = .ok (.iadd, 1) := by decide +kernel
theorem dL_law_2650 : decode cL_law 2650 = .ok (.iaload, 1) := by decide +kernel
theorem dL_law_2651 : decode cL_law 2651 = .ok (.aload_n 3, 1) := by decide +kernel
theorem dL_law_2652 : decode cL_law 2652 = .ok (.invokestatic 331, 3) := by decide +kernel
theorem dL_law_2655 : decode cL_law 2655 = .ok (.istore 6, 2) := by decide +kernel
theorem dL_law_2657 : decode cL_law 2657 = .ok (.aload_n 2, 1) := by decide +kernel
theorem dL_law_2658 : decode cL_law 2658 = .ok (.aload_n 0, 1) := by decide +kernel
theorem dL_law_2659 : decode cL_law 2659 = .ok (.iload 5, 2) := by decide +kernel
theorem dL_law_2661 : decode cL_law 2661 = .ok (.iconst 1, 1) := by decide +kernel
theorem dL_law_2662 : decode cL_law 2662 = .ok (.iadd, 1) := by decide +kernel
theorem dL_law_2663 : decode cL_law 2663 = .ok (.iaload, 1) := by decide +kernel
theorem dL_law_2664 : decode cL_law 2664 = .ok (.invokevirtual 333, 3) := by decide +kernel
theorem dL_law_2667 : decode cL_law 2667 = .ok (.istore 7, 2) := by decide +kernel
theorem dL_law_2669 : decode cL_law 2669 = .ok (.aload_n 2, 1) := by decide +kernel
theorem dL_law_2670 : decode cL_law 2670 = .ok (.invokevirtual 184, 3) := by decide +kernel
theorem dL_law_2673 : decode cL_law 2673 = .ok (.iload 6, 2) := by decide +kernel
theorem dL_law_2675 : decode cL_law 2675 = .ok (.if_icmp .eq 5, 3) := by decide +kernel
theorem dL_law_2678 : decode cL_law 2678 = .ok (.iconst 0, 1) := by decide +kernel
theorem dL_law_2679 : decode cL_law 2679 = .ok (.ireturn, 1) := by decide +kernel
theorem dL_law_2680 : decode cL_law 2680 = .ok (.iload 6, 2) := by decide +kernel
theorem dL_law_2682 : decode cL_law 2682 = .ok (.ifCond .ne 15, 3) := by decide +kernel
theorem dL_law_2685 : decode cL_law 2685 = .ok (.aload_n 3, 1) := by decide +kernel
