theorem dL_law__2169 : decode cL_law_ 2169 = .ok (.iload 6, 2) := by decide +kernel
theorem dL_law__2171 : decode cL_law_ 2171 = .ok (.i2l, 1) := by decide +kernel
theorem dL_law__2172 : decode cL_law_ 2172 = .ok (.lcmp, 1) := by decide +kernel
theorem dL_law__2173 : decode cL_law_ 2173 = .ok (.ifCond .eq 5, 3) := by decide +kernel
theorem dL_law__2176 : decode cL_law_ 2176 = .ok (.iconst 0, 1) := by decide +kernel
theorem dL_law__2177 : decode cL_law_ 2177 = .ok (.ireturn, 1) := by decide +kernel
theorem dL_law__2178 : decode cL_law_ 2178 = .ok (.goto 466, 3) := by decide +kernel
theorem dL_law__2181 : decode cL_law_ 2181 = .ok (.aload_n 1, 1) := by decide +kernel
theorem dL_law__2182 : decode cL_law_ 2182 = .ok (.aload_n 0, 1) := by decide +kernel
theorem dL_law__2183 : decode cL_law_ 2183 = .ok (.iload 4, 2) := by decide +kernel
theorem dL_law__2185 : decode cL_law_ 2185 = .ok (.iconst 1, 1) := by decide +kernel
theorem dL_law__2186 : decode cL_law_ 2186 = .ok (.iadd, 1) := by decide +kernel
theorem dL_law__2187 : decode cL_law_ 2187 = .ok (.iaload, 1) := by decide +kernel
theorem dL_law__2188 : decode cL_law_ 2188 = .ok (.aload_n 3, 1) := by decide +kernel
theorem dL_law__2189 : decode cL_law_ 2189 = .ok (.invokestatic 261, 3) := by decide +kernel
theorem dL_law__2192 : decode cL_law_ 2192 = .ok (.istore 5, 2) := by decide +kernel
theorem dL_law__2194 : decode cL_law_ 2194 = .ok (.aload_n 2, 1) := by decide +kernel
theorem dL_law__2195 : decode cL_law_ 2195 = .ok (.aload_n 0, 1) := by decide +kernel
theorem dL_law__2196 : decode cL_law_ 2196 = .ok (.iload 4, 2) := by decide +kernel
theorem dL_law__2198 : decode cL_law_ 2198 = .ok (.iconst 1, 1) := by decide +kernel
theorem dL_law__2199 : decode cL_law_ 2199 = .ok (.iadd, 1) := by decide +kernel
theorem dL_law__2200 : decode cL_law_ 2200 = .ok (.iaload, 1) := by decide +kernel
theorem dL_law__2201 : decode cL_law_ 2201 = .ok (.invokevirtual 263, 3) := by decide +kernel
theorem dL_law__2204 : decode cL_law_ 2204 = .ok (.istore 6, 2) := by decide +kernel
theorem dL_law__2206 : decode cL_law_ 2206 = .ok (.aload_n 2, 1) := by decide +kernel
theorem dL_law__2207 : decode cL_law_ 2207 = .ok (.invokevirtual 139, 3) := by decide +kernel
theorem dL_law__2210 : decode cL_law_ 2210 = .ok (.iload 5, 2) := by decide +kernel
theorem dL_law__2212 : decode cL_law_ 2212 = .ok (.if_icmp .eq 5, 3) := by decide +kernel
theorem dL_law__2215 : decode cL_law_ 2215 = .ok (.iconst 0, 1) := by decide +kernel
theorem dL_law__2216 : decode cL_law_ 2216 = .ok (.ireturn, 1) := by decide +kernel
theorem dL_law__2217 : decode cL_law_ 2217 = .ok (.iload 5, 2) := by decide +kernel
theorem dL_law__2219 : decode cL_law_ 2219 = .ok (.ifCond .ne 15, 3) := by decide +kernel
theorem dL_law__2222 : decode cL_law_ 2222 = .ok (.aload_n 3, 1) := by decide +kernel
theorem dL_law__2223 : decode cL_law_ 2223 = .ok (.iconst 0, 1) := by decide +kernel
theorem dL_law__2224 : decode cL_law_ 2224 = .ok (.laload, 1) := by decide +kernel
theorem dL_law__2225 : decode cL_law_ 2225 = .ok (.iload 6, 2) := by decide +kernel
theorem dL_law__2227 : decode cL_law_ 2227 = .ok (.i2l, 1) := by decide +kernel
theorem dL_law__2228 : decode cL_law_ 2228 = .ok (.lcmp, 1) := by decide +kernel
theorem dL_law__2229 : decode cL_law_ 2229 = .ok (.ifCond .eq 5, 3) := by decide +kernel
theorem dL_law__2232 : decode cL_law_ 2232 = .ok (.iconst 0, 1) := by decide +kernel
theorem dL_law__2233 : decode cL_law_ 2233 = .ok (.ireturn, 1) := by decide +kernel
theorem dL_law__2234 : decode cL_law_ 2234 = .ok (.goto 410, 3) := by decide +kernel
theorem dL_law__2237 : decode cL_law_ 2237 = .ok (.aload_n 1, 1) := by decide +kernel
theorem dL_law__2238 : decode cL_law_ 2238 = .ok (.aload_n 0, 1) := by decide +kernel
theorem dL_law__2239 : decode cL_law_ 2239 = .ok (.iload 4, 2) := by decide +kernel
theorem dL_law__2241 : decode cL_law_ 2241 = .ok (.iconst 1, 1) := by decide +kernel
theorem dL_law__2242 : decode cL_law_ 2242 = .ok (.iadd, 1) := by decide +kernel
theorem dL_law__2243 : decode cL_law_ 2243 = .ok (.iaload, 1) := by decide +kernel
theorem dL_law__2244 : decode cL_law_ 2244 = .ok (.aload_n 0, 1) := by decide +kernel
theorem dL_law__2245 : decode cL_law_ 2245 = .ok (.iload 4, 2) := by decide +kernel
theorem dL_law__2247 : decode cL_law_ 2247 = .ok (.iconst 2, 1) := by decide +kernel
theorem dL_law__2248 : decode cL_law_ 2248 = .ok (.iadd, 1) := by decide +kernel
theorem dL_law__2249 : decode cL_law_ 2249 = .ok (.iaload, 1) := by decide +kernel
theorem dL_law__2250 : decode cL_law_ 2250 = .ok (.ifCond .eq 7, 3) := by decide +kernel
theorem dL_law__2253 : decode cL_law_ 2253 = .ok (.iconst 1, 1) := by decide +kernel
theorem dL_law__2254 : decode cL_law_ 2254 = .ok (.goto 4, 3) := by decide +kernel
theorem dL_law__2257 : decode cL_law_ 2257 = .ok (.iconst 0, 1) := by decide +kernel
theorem dL_law__2258 : decode cL_law_ 2258 = .ok (.aload_n 3, 1) := by decide +kernel
theorem dL_law__2259 : decode cL_law_ 2259 = .ok (.invokestatic 264, 3) := by decide +kernel
theorem dL_law__2262 : decode cL_law_ 2262 = .ok (.istore 5, 2) := by decide +kernel
theorem dL_law__2264 : decode cL_law_ 2264 = .ok (.aload_n 2, 1) := by decide +kernel
theorem dL_law__2265 : decode cL_law_ 2265 = .ok (.aload_n 0, 1) := by decide +kernel
theorem dL_law__2266 : decode cL_law_ 2266 = .ok (.iload 4, 2) := by decide +kernel
theorem dL_law__2268 : decode cL_law_ 2268 = .ok (.iconst 1, 1) := by decide +kernel
theorem dL_law__2269 : decode cL_law_ 2269 = .ok (.iadd, 1) := by decide +kernel
theorem dL_law__2270 : decode cL_law_ 2270 = .ok (.iaload, 1) := by decide +kernel
theorem dL_law__2271 : decode cL_law_ 2271 = .ok (.aload_n 0, 1) := by decide +kernel
theorem dL_law__2272 : decode cL_law_ 2272 = .ok (.iload 4, 2) := by decide +kernel
theorem dL_law__2274 : decode cL_law_ 2274 = .ok (.iconst 2, 1) := by decide +kernel
theorem dL_law__2275 : decode cL_law_ 2275 = .ok (.iadd, 1) := by decide +kernel
theorem dL_law__2276 : decode cL_law_ 2276 = .ok (.iaload, 1) := by decide +kernel
theorem dL_law__2277 : decode cL_law_ 2277 = .ok (.ifCond .eq 7, 3) := by decide +kernel
theorem dL_law__2280 : decode cL_law_ 2280 = .ok (.iconst 1, 1) := by decide +kernel
theorem dL_law__2281 : decode cL_law_ 2281 = .ok (.goto 4, 3) := by decide +kernel
theorem dL_law__2284 : decode cL_law_ 2284 = .ok (.iconst 0, 1) := by decide +kernel
theorem dL_law__2285 : decode cL_law_ 2285 = .ok (.invokevirtual 266, 3) := by decide +kernel
theorem dL_law__2288 : decode cL_law_ 2288 = .ok (.istore 6, 2) := by decide +kernel
theorem dL_law__2290 : decode cL_law_ 2290 = .ok (.aload_n 2, 1) := by decide +kernel
theorem dL_law__2291 : decode cL_law_ 2291 = .ok (.invokevirtual 139, 3) := by decide +kernel
theorem dL_law__2294 : decode cL_law_ 2294 = .ok (.iload 5, 2) := by decide +kernel
theorem dL_law__2296 : decode cL_law_ 2296 = .ok (.if_icmp .eq 5, 3) := by decide +kernel
theorem dL_law__2299 : decode cL_law_ 2299 = .ok (.iconst 0, 1) := by decide +kernel
theorem dL_law__2300 : decode cL_law_ 2300 = .ok (.ireturn, 1) := by decide +kernel
theorem dL_law__2301 : decode cL_law_ 2301 = .ok (.iload 5, 2) := by decide +kernel
theorem dL_law__2303 : decode cL_law_ 2303 = .ok (.ifCond .ne 15, 3) := by decide +kernel
theorem dL_law__2306 : decode cL_law_ 2306 = .ok (.aload_n 3, 1) := by decide +kernel
theorem dL_law__2307 : decode cL_law_ 2307 = .ok (.iconst 0, 1) := by decide +kernel
theorem dL_law__2308 : decode cL_law_ 2308 = .ok (.laload, 1) := by decide +kernel
theorem dL_law__2309 : decode cL_law_ 2309 = .ok (.iload 6, 2) := by decide +kernel
theorem dL_law__2311 : decode cL_law_ 2311 = .ok (.i2l, 1) := by decide +kernel
theorem dL_law__2312 : decode cL_law_ 2312 = .ok (.lcmp, 1) := by decide +kernel
theorem dL_law__2313 : decode cL_law_ 2313 = .ok (.ifCond .eq 5, 3) := by decide +kernel
theorem dL_law__2316 : decode cL_law_ 2316 = .ok (.iconst 0, 1) := by decide +kernel
theorem dL_law__2317 : decode cL_law_ 2317 = .ok (.ireturn, 1) := by decide +kernel
theorem dL_law__2318 : decode cL_law_ 2318 = .ok (.goto 326, 3) := by decide +kernel
theorem dL_law__2321 : decode cL_law_ 2321 = .ok (.aload_n 1, 1) := by decide +kernel
theorem dL_law__2322 : decode cL_law_ 2322 = .ok (.aload_n 0, 1) := by decide +kernel
theorem dL_law__2323 : decode cL_law_ 2323 = .ok (.iload 4, 2) := by decide +kernel
theorem dL_law__2325 : decode cL_law_ 2325 = .ok (.iconst 1, 1) := by decide +kernel
theorem dL_law__2326 : decode cL_law_ 2326 = .ok (.iadd, 1) := by decide +kernel
theorem dL_law__2327 : decode cL_law_ 2327 = .ok (.iaload, 1) := by decide +kernel
theorem dL_law__2328 : decode cL_law_ 2328 = .ok (.aload_n 0, 1) := by decide +kernel
theorem dL_law__2329 : decode cL_law_ 2329 = .ok (.iload 4, 2) := by decide +kernel
theorem dL_law__2331 : decode cL_law_ 2331 = .ok (.iconst 2, 1) := by decide +kernel
theorem dL_law__2332 : decode cL_law_ 2332 = .ok (.iadd, 1) := by decide +kernel
theorem dL_law__2333 : decode cL_law_ 2333 = .ok (.iaload, 1) := by decide +kernel
theorem dL_law__2334 : decode cL_law_ 2334 = .ok (.ifCond .eq 7, 3) := by decide +kernel
theorem dL_law__2337 : decode cL_law_ 2337 = .ok (.iconst 1, 1) := by decide +kernel
theorem dL_law__2338 : decode cL_law_ 2338 = .ok (.goto 4, 3) := by decide +kernel
theorem dL_law__2341 : decode cL_law_ 2341 = .ok (.iconst 0, 1) := by decide +kernel
theorem dL_law__2342 : decode cL_law_ 2342 = .ok (.aload_n 3, 1) := by decide +kernel
theorem dL_law__2343 : decode cL_law_ 2343 = .ok (.invokestatic 267, 3) := by decide +kernel
theorem dL_law__2346 : decode cL_law_ 2346 = .ok (.istore 5, 2) := by decide +kernel
theorem dL_law__2348 : decode cL_law_ 2348 = .ok (.aload_n 2, 1) := by decide +kernel
theorem dL_law__2349 : decode cL_law_ 2349 = .ok (.aload_n 0, 1) := by decide +kernel
theorem dL_law__2350 : decode cL_law_ 2350 = .ok (.iload 4, 2) := by decide +kernel
theorem dL_law__2352 : decode cL_law_ 2352 = .ok (.iconst 1, 1) := by decide +kernel
theorem dL_law__2353 : decode cL_law_ 2353 = .ok (.iadd, 1) := by decide +kernel
theorem dL_law__2354 : decode cL_law_ 2354 = .ok (.iaload, 1) := by decide +kernel
theorem dL_law__2355 : decode cL_law_ 2355 = .ok (.aload_n 0, 1) := by decide +kernel
theorem dL_law__2356 : decode cL_law_ 2356 = .ok (.iload 4, 2) := by decide +kernel
theorem dL_law__2358 : decode cL_law_ 2358 = .ok (.iconst 2, 1) := by decide +kernel
theorem dL_law__2359 : decode cL_law_ 2359 = .ok (.iadd, 1) := by decide +kernel
theorem dL_law__2360 : decode cL_law_ 2360 = .ok (.iaload, 1) := by decide +kernel
theorem dL_law__2361 : decode cL_law_ 2361 = .ok (.ifCond .eq 7, 3) := by decide +kernel
theorem dL_law__2364 : decode cL_law_ 2364 = .ok (.iconst 1, 1) := by decide +kernel
theorem dL_law__2365 : decode cL_law_ 2365 = .ok (.goto 4, 3) := by decide +kernel
theorem dL_law__2368 : decode cL_law_ 2368 = .ok (.iconst 0, 1) := by decide +kernel
theorem dL_law__2369 : decode cL_law_ 2369 = .ok (.invokevirtual 269, 3) := by decide +kernel
theorem dL_law__2372 : decode cL_law_ 2372 = .ok (.istore 6, 2) := by decide +kernel
theorem dL_law__2374 : decode cL_law_ 2374 = .ok (.aload_n 2, 1) := by decide +kernel
theorem dL_law__2375 : decode cL_law_ 2375 = .ok (.invokevirtual 139, 3) := by decide +kernel
theorem dL_law__2378 : decode cL_law_ 2378 = .ok (.iload 5, 2) := by decide +kernel
theorem dL_law__2380 : decode cL_law_ 2380 = .ok (.if_icmp .eq 5, 3) := by decide +kernel
theorem dL_law__2383 : decode cL_law_ 2383 = .ok (.iconst 0, 1) := by decide +kernel
theorem dL_law__2384 : decode cL_law_ 2384 = .ok (.ireturn, 1) := by decide +kernel
theorem dL_law__2385 : decode cL_law_ 2385 = .ok (.iload 5, 2) := by decide +kernel
theorem dL_law__2387 : decode cL_law_ 2387 = .ok (.ifCond .ne 15, 3) := by decide +kernel
theorem dL_law__2390 : decode cL_law_ 2390 = .ok (.aload_n 3, 1) := by decide +kernel
theorem dL_law__2391 : decode cL_law_ 2391 = .ok (.iconst 0, 1) := by decide +kernel
theorem dL_law__2392 : decode cL_law_ 2392 = .ok (.laload, 1) := by decide +kernel
theorem dL_law__2393 : decode cL_law_ 2393 = .ok (.iload 6, 2) := by decide +kernel
theorem dL_law__2395 : decode cL_law_ 2395 = .ok (.i2l, 1) := by decide +kernel
theorem dL_law__2396 : decode cL_law_ 2396 = .ok (.lcmp, 1) := by decide +kernel
theorem dL_law__2397 : decode cL_law_ 2397 = .ok (.ifCond .eq 5, 3) := by decide +kernel
theorem dL_law__2400 : decode cL_law_ 2400 = .ok (.iconst 0, 1) := by decide +kernel
theorem dL_law__2401 : decode cL_law_ 2401 = .ok (.ireturn, 1) := by decide +kernel
theorem dL_law__2402 : decode cL_law_ 2402 = .ok (.goto 242, 3) := by decide +kernel
theorem dL_law__2405 : decode cL_law_ 2405 = .ok (.aload_n 1, 1) := by decide +kernel
theorem dL_law__2406 : decode cL_law_ 2406 = .ok (.aload_n 0, 1) := by decide +kernel
theorem dL_law__2407 : decode cL_law_ 2407 = .ok (.iload 4, 2) := by decide +kernel
theorem dL_law__2409 : decode cL_law_ 2409 = .ok (.iconst 1, 1) := by decide +kernel
theorem dL_law__2410 : decode cL_law_ 2410 = .ok (.iadd, 1) := by decide +kernel
theorem dL_law__2411 : decode cL_law_ 2411 = .ok (.iaload, 1) := by decide +kernel
theorem dL_law__2412 : decode cL_law_ 2412 = .ok (.aload_n 0, 1) := by decide +kernel
theorem dL_law__2413 : decode cL_law_ 2413 = .ok (.iload 4, 2) := by decide +kernel
theorem dL_law__2415 : decode cL_law_ 2415 = .ok (.iconst 2, 1) := by decide +kernel
theorem dL_law__2416 : decode cL_law_ 2416 = .ok (.iadd, 1) := by decide +kernel
theorem dL_law__2417 : decode cL_law_ 2417 = .ok (.iaload, 1) := by decide +kernel
theorem dL_law__2418 : decode cL_law_ 2418 = .ok (.ifCond .eq 7, 3) := by decide +kernel
theorem dL_law__2421 : decode cL_law_ 2421 = .ok (.iconst 1, 1) := by decide +kernel
theorem dL_law__2422 : decode cL_law_ 2422 = .ok (.goto 4, 3) := by decide +kernel
theorem dL_law__2425 : decode cL_law_ 2425 = .ok (.iconst 0, 1) := by decide +kernel
theorem dL_law__2426 : decode cL_law_ 2426 = .ok (.aload_n 3, 1) := by decide +kernel
theorem dL_law__2427 : decode cL_law_ 2427 = .ok (.invokestatic 270, 3) := by decide +kernel
theorem dL_law__2430 : decode cL_law_ 2430 = .ok (.istore 5, 2) := by decide +kernel
theorem dL_law__2432 : decode cL_law_ 2432 = .ok (.aload_n 2, 1) := by decide +kernel
theorem dL_law__2433 : decode cL_law_ 2433 = .ok (.aload_n 0, 1) := by decide +kernel
theorem dL_law__2434 : decode cL_law_ 2434 = .ok (.iload 4, 2) := by decide +kernel
theorem dL_law__2436 : decode cL_law_ 2436 = .ok (.iconst 1, 1) := by decide +kernel
theorem dL_law__2437 : decode cL_law_ 2437 = .ok (.iadd, 1) := by decide +kernel
theorem dL_law__2438 : decode cL_law_ 2438 = .ok (.iaload, 1) := by decide +kernel
theorem dL_law__2439 : decode cL_law_ 2439 = .ok (.aload_n 0, 1) := by decide +kernel
theorem dL_law__2440 : decode cL_law_ 2440 = .ok (.iload 4, 2) := by decide +kernel
theorem dL_law__2442 : decode cL_law_ 2442 = .ok (.iconst 2, 1) := by decide +kernel
theorem dL_law__2443 : decode cL_law_ 2443 = .ok (.iadd, 1) := by decide +kernel
theorem dL_law__2444 : decode cL_law_ 2444 = .ok (.iaload, 1) := by decide +kernel
theorem dL_law__2445 : decode cL_law_ 2445 = .ok (.ifCond .eq 7, 3) := by decide +kernel
theorem dL_law__2448 : decode cL_law_ 2448 = .ok (.iconst 1, 1) := by decide +kernel
theorem dL_law__2449 : decode cL_law_ 2449 = .ok (.goto 4, 3) := by decide +kernel
theorem dL_law__2452 : decode cL_law_ 2452 = .ok (.iconst 0, 1) := by decide +kernel
theorem dL_law__2453 : decode cL_law_ 2453 = .ok (.invokevirtual 272, 3) := by decide +kernel
theorem dL_law__2456 : decode cL_law_ 2456 = .ok (.istore 6, 2) := by decide +kernel
theorem dL_law__2458 : decode cL_law_ 2458 = .ok (.aload_n 2, 1) := by decide +kernel
theorem dL_law__2459 : decode cL_law_ 2459 = .ok (.invokevirtual 139, 3) := by decide +kernel
theorem dL_law__2462 : decode cL_law_ 2462 = .ok (.iload 5, 2) := by decide +kernel
theorem dL_law__2464 : decode cL_law_ 2464 = .ok (.if_icmp .eq 5, 3) := by decide +kernel
theorem dL_law__2467 : decode cL_law_ 2467 = .ok (.iconst 0, 1) := by decide +kernel
theorem dL_law__2468 : decode cL_law_ 2468 = .ok (.ireturn, 1) := by decide +kernel
theorem dL_law__2469 : decode cL_law_ 2469 = .ok (.iload 5, 2) := by decide +kernel
theorem dL_law__2471 : decode cL_law_ 2471 = .ok (.ifCond .ne 15, 3) := by decide +kernel
theorem dL_law__2474 : decode cL_law_ 2474 = .ok (.aload_n 3, 1) := by decide +kernel
theorem dL_law__2475 : decode cL_law_ 2475 = .ok (.iconst 0, 1) := by decide +kernel
theorem dL_law__2476 : decode cL_law_ 2476 = .ok (.laload, 1) := by decide +kernel
theorem dL_law__2477 : decode cL_law_ 2477 = .ok (.iload 6, 2) := by decide +kernel
theorem dL_law__2479 : decode cL_law_ 2479 = .ok (.i2l, 1) := by decide +kernel
theorem dL_law__2480 : decode cL_law_ 2480 = .ok (.lcmp, 1) := by decide +kernel
theorem dL_law__2481 : decode cL_law_ 2481 = .ok (.ifCond .eq 5, 3) := by decide +kernel
theorem dL_law__2484 : decode cL_law_ 2484 = .ok (.iconst 0, 1) := by decide +kernel
theorem dL_law__2485 : decode cL_law_ 2485 = .ok (.ireturn, 1) := by decide +kernel
theorem dL_law__2486 : decode cL_law_ 2486 = .ok (.goto 158, 3) := by decide +kernel
theorem dL_law__2489 : decode cL_law_ 2489 = .ok (.aload_n 1, 1) := by decide +kernel
theorem dL_law__2490 : decode cL_law_ 2490 = .ok (.aload_n 0, 1) := by decide +kernel
theorem dL_law__2491 : decode cL_law_ 2491 = .ok (.iload 4, 2) := by decide +kernel
theorem dL_law__2493 : decode cL_law_ 2493 = .ok (.iconst 1, 1) := by decide +kernel
theorem dL_law__2494 : decode cL_law_ 2494 = .ok (.iadd, 1) := by decide +kernel
theorem dL_law__2495 : decode cL_law_ 2495 = .ok (.iaload, 1) := by decide +kernel
theorem dL_law__2496 : decode cL_law_ 2496 = .ok (.aload_n 0, 1) := by decide +kernel
theorem dL_law__2497 : decode cL_law_ 2497 = .ok (.iload 4, 2) := by decide +kernel
theorem dL_law__2499 : decode cL_law_ 2499 = .ok (.iconst 2, 1) := by decide +kernel
theorem dL_law__2500 : decode cL_law_ 2500 = .ok (.iadd, 1) := by decide +kernel
theorem dL_law__2501 : decode cL_law_ 2501 = .ok (.iaload, 1) := by decide +kernel
theorem dL_law__2502 : decode cL_law_ 2502 = .ok (.aload_n 3, 1) := by decide +kernel
theorem dL_law__2503 : decode cL_law_ 2503 = .ok (.invokestatic 273, 3) := by decide +kernel
theorem dL_law__2506 : decode cL_law_ 2506 = .ok (.istore 5, 2) := by decide +kernel
theorem dL_law__2508 : decode cL_law_ 2508 = .ok (.aload_n 2, 1) := by decide +kernel
theorem dL_law__2509 : decode cL_law_ 2509 = .ok (.aload_n 0, 1) := by decide +kernel
theorem dL_law__2510 : decode cL_law_ 2510 = .ok (.iload 4, 2) := by decide +kernel
theorem dL_law__2512 : decode cL_law_ 2512 = .ok (.iconst 1, 1) := by decide +kernel
theorem dL_law__2513 : decode cL_law_ 2513 = .ok (.iadd, 1) := by decide +kernel
theorem dL_law__2514 : decode cL_law_ 2514 = .ok (.iaload, 1) := by decide +kernel
theorem dL_law__2515 : decode cL_law_ 2515 = .ok (.aload_n 0, 1) := by decide +kernel
theorem dL_law__2516 : decode cL_law_ 2516 = .ok (.iload 4, 2) := by decide +kernel
theorem dL_law__2518 : decode cL_law_ 2518 = .ok (.iconst 2, 1) := by decide +kernel
theorem dL_law__2519 : decode cL_law_ 2519 = .ok (.iadd, 1) := by decide +kernel
theorem dL_law__2520 : decode cL_law_ 2520 = .ok (.iaload, 1) := by decide +kernel
theorem dL_law__2521 : decode cL_law_ 2521 = .ok (.invokevirtual 275, 3) := by decide +kernel
theorem dL_law__2524 : decode cL_law_ 2524 = .ok (.istore 6, 2) := by decide +kernel
theorem dL_law__2526 : decode cL_law_ 2526 = .ok (.aload_n 2, 1) := by decide +kernel
theorem dL_law__2527 : decode cL_law_ 2527 = .ok (.invokevirtual 139, 3) := by decide +kernel
theorem dL_law__2530 : decode cL_law_ 2530 = .ok (.iload 5, 2) := by decide +kernel
theorem dL_law__2532 : decode cL_law_ 2532 = .ok (.if_icmp .eq 5, 3) := by decide +kernel
theorem dL_law__2535 : decode cL_law_ 2535 = .ok (.iconst 0, 1) := by decide +kernel
theorem dL_law__2536 : decode cL_law_ 2536 = .ok (.ireturn, 1) := by decide +kernel
theorem dL_law__2537 : decode cL_law_ 2537 = .ok (.iload 5, 2) := by decide +kernel
theorem dL_law__2539 : decode cL_law_ 2539 = .ok (.ifCond .ne 15, 3) := by decide +kernel
theorem dL_law__2542 : decode cL_law_ 2542 = .ok (.aload_n 3, 1) := by decide +kernel
theorem dL_law__2543 : decode cL_law_ 2543 = .ok (.iconst 0, 1) := by decide +kernel
theorem dL_law__2544 : decode cL_law_ 2544 = .ok (.laload, 1) := by decide +kernel
theorem dL_law__2545 : decode cL_law_ 2545 = .ok (.iload 6, 2) := by decide +kernel
theorem dL_law__2547 : decode cL_law_ 2547 = .ok (.i2l, 1) := by decide +kernel
theorem dL_law__2548 : decode cL_law_ 2548 = .ok (.lcmp, 1) := by decide +kernel
theorem dL_law__2549 : decode cL_law_ 2549 = .ok (.ifCond .eq 5, 3) := by decide +kernel
theorem dL_law__2552 : decode cL_law_ 2552 = .ok (.iconst 0, 1) := by decide +kernel
theorem dL_law__2553 : decode cL_law_ 2553 = .ok (.ireturn, 1) := by decide +kernel
theorem dL_law__2554 : decode cL_law_ 2554 = .ok (.goto 90, 3) := by decide +kernel
theorem dL_law__2557 : decode cL_law_ 2557 = .ok (.aload_n 1, 1) := by decide +kernel
theorem dL_law__2558 : decode cL_law_ 2558 = .ok (.aload_n 0, 1) := by decide +kernel
theorem dL_law__2559 : decode cL_law_ 2559 = .ok (.iload 4, 2) := by decide +kernel
theorem dL_law__2561 : decode cL_law_ 2561 = .ok (.iconst 1, 1) := by decide +kernel
