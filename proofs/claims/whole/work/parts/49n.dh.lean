theorem dL_law_2241 : decode cL_law 2241 = .ok (.laload, 1) := by decide +kernel
theorem dL_law_2242 : decode cL_law 2242 = .ok (.iload 7, 2) := by decide +kernel
theorem dL_law_2244 : decode cL_law 2244 = .ok (.i2l, 1) := by decide +kernel
theorem dL_law_2245 : decode cL_law 2245 = .ok (.lcmp, 1) := by decide +kernel
theorem dL_law_2246 : decode cL_law 2246 = .ok (.ifCond .eq 5, 3) := by decide +kernel
theorem dL_law_2249 : decode cL_law 2249 = .ok (.iconst 0, 1) := by decide +kernel
theorem dL_law_2250 : decode cL_law 2250 = .ok (.ireturn, 1) := by decide +kernel
theorem dL_law_2251 : decode cL_law 2251 = .ok (.goto 286, 3) := by decide +kernel
theorem dL_law_2254 : decode cL_law 2254 = .ok (.aload_n 1, 1) := by decide +kernel
theorem dL_law_2255 : decode cL_law 2255 = .ok (.aload_n 0, 1) := by decide +kernel
theorem dL_law_2256 : decode cL_law 2256 = .ok (.iload 5, 2) := by decide +kernel
theorem dL_law_2258 : decode cL_law 2258 = .ok (.iconst 1, 1) := by decide +kernel
theorem dL_law_2259 : decode cL_law 2259 = .ok (.iadd, 1) := by decide +kernel
theorem dL_law_2260 : decode cL_law 2260 = .ok (.iaload, 1) := by decide +kernel
theorem dL_law_2261 : decode cL_law 2261 = .ok (.aload_n 0, 1) := by decide +kernel
theorem dL_law_2262 : decode cL_law 2262 = .ok (.iload 5, 2) := by decide +kernel
theorem dL_law_2264 : decode cL_law 2264 = .ok (.iconst 2, 1) := by decide +kernel
theorem dL_law_2265 : decode cL_law 2265 = .ok (.iadd, 1) := by decide +kernel
theorem dL_law_2266 : decode cL_law 2266 = .ok (.iaload, 1) := by decide +kernel
theorem dL_law_2267 : decode cL_law 2267 = .ok (.aload_n 3, 1) := by decide +kernel
theorem dL_law_2268 : decode cL_law 2268 = .ok (.invokestatic 284, 3) := by decide +kernel
theorem dL_law_2271 : decode cL_law 2271 = .ok (.istore 6, 2) := by decide +kernel
theorem dL_law_2273 : decode cL_law 2273 = .ok (.aload_n 2, 1) := by decide +kernel
theorem dL_law_2274 : decode cL_law 2274 = .ok (.aload_n 0, 1) := by decide +kernel
theorem dL_law_2275 : decode cL_law 2275 = .ok (.iload 5, 2) := by decide +kernel
theorem dL_law_2277 : decode cL_law 2277 = .ok (.iconst 1, 1) := by decide +kernel
theorem dL_law_2278 : decode cL_law 2278 = .ok (.iadd, 1) := by decide +kernel
theorem dL_law_2279 : decode cL_law 2279 = .ok (.iaload, 1) := by decide +kernel
theorem dL_law_2280 : decode cL_law 2280 = .ok (.aload_n 0, 1) := by decide +kernel
theorem dL_law_2281 : decode cL_law 2281 = .ok (.iload 5, 2) := by decide +kernel
theorem dL_law_2283 : decode cL_law 2283 = .ok (.iconst 2, 1) := by decide +kernel
theorem dL_law_2284 : decode cL_law 2284 = .ok (.iadd, 1) := by decide +kernel
theorem dL_law_2285 : decode cL_law 2285 = .ok (.iaload, 1) := by decide +kernel
theorem dL_law_2286 : decode cL_law 2286 = .ok (.invokevirtual 286, 3) := by decide +kernel
theorem dL_law_2289 : decode cL_law 2289 = .ok (.istore 7, 2) := by decide +kernel
theorem dL_law_2291 : decode cL_law 2291 = .ok (.aload_n 2, 1) := by decide +kernel
theorem dL_law_2292 : decode cL_law 2292 = .ok (.invokevirtual 152, 3) := by decide +kernel
theorem dL_law_2295 : decode cL_law 2295 = .ok (.iload 6, 2) := by decide +kernel
theorem dL_law_2297 : decode cL_law 2297 = .ok (.if_icmp .eq 5, 3) := by decide +kernel
theorem dL_law_2300 : decode cL_law 2300 = .ok (.iconst 0, 1) := by decide +kernel
theorem dL_law_2301 : decode cL_law 2301 = .ok (.ireturn, 1) := by decide +kernel
theorem dL_law_2302 : decode cL_law 2302 = .ok (.iload 6, 2) := by decide +kernel
theorem dL_law_2304 : decode cL_law 2304 = .ok (.ifCond .ne 15, 3) := by decide +kernel
theorem dL_law_2307 : decode cL_law 2307 = .ok (.aload_n 3, 1) := by decide +kernel
theorem dL_law_2308 : decode cL_law 2308 = .ok (.iconst 0, 1) := by decide +kernel
theorem dL_law_2309 : decode cL_law 2309 = .ok (.laload, 1) := by decide +kernel
theorem dL_law_2310 : decode cL_law 2310 = .ok (.iload 7, 2) := by decide +kernel
theorem dL_law_2312 : decode cL_law 2312 = .ok (.i2l, 1) := by decide +kernel
theorem dL_law_2313 : decode cL_law 2313 = .ok (.lcmp, 1) := by decide +kernel
theorem dL_law_2314 : decode cL_law 2314 = .ok (.ifCond .eq 5, 3) := by decide +kernel
theorem dL_law_2317 : decode cL_law 2317 = .ok (.iconst 0, 1) := by decide +kernel
theorem dL_law_2318 : decode cL_law 2318 = .ok (.ireturn, 1) := by decide +kernel
theorem dL_law_2319 : decode cL_law 2319 = .ok (.goto 218, 3) := by decide +kernel
theorem dL_law_2322 : decode cL_law 2322 = .ok (.aload_n 1, 1) := by decide +kernel
theorem dL_law_2323 : decode cL_law 2323 = .ok (.invokevirtual 287, 3) := by decide +kernel
theorem dL_law_2326 : decode cL_law 2326 = .ok (.aload_n 2, 1) := by decide +kernel
theorem dL_law_2327 : decode cL_law 2327 = .ok (.invokevirtual 290, 3) := by decide +kernel
theorem dL_law_2330 : decode cL_law 2330 = .ok (.if_icmp .eq 207, 3) := by decide +kernel
theorem dL_law_2333 : decode cL_law 2333 = .ok (.iconst 0, 1) := by decide +kernel
theorem dL_law_2334 : decode cL_law 2334 = .ok (.ireturn, 1) := by decide +kernel
theorem dL_law_2335 : decode cL_law 2335 = .ok (.aload_n 1, 1) := by decide +kernel
theorem dL_law_2336 : decode cL_law 2336 = .ok (.aload_n 3, 1) := by decide +kernel
theorem dL_law_2337 : decode cL_law 2337 = .ok (.invokestatic 291, 3) := by decide +kernel
theorem dL_law_2340 : decode cL_law 2340 = .ok (.istore 6, 2) := by decide +kernel
theorem dL_law_2342 : decode cL_law 2342 = .ok (.aload_n 2, 1) := by decide +kernel
theorem dL_law_2343 : decode cL_law 2343 = .ok (.invokevirtual 293, 3) := by decide +kernel
theorem dL_law_2346 : decode cL_law 2346 = .ok (.istore 7, 2) := by decide +kernel
theorem dL_law_2348 : decode cL_law 2348 = .ok (.aload_n 2, 1) := by decide +kernel
theorem dL_law_2349 : decode cL_law 2349 = .ok (.invokevirtual 152, 3) := by decide +kernel
theorem dL_law_2352 : decode cL_law 2352 = .ok (.iload 6, 2) := by decide +kernel
theorem dL_law_2354 : decode cL_law 2354 = .ok (.if_icmp .eq 5, 3) := by decide +kernel
theorem dL_law_2357 : decode cL_law 2357 = .ok (.iconst 0, 1) := by decide +kernel
theorem dL_law_2358 : decode cL_law 2358 = .ok (.ireturn, 1) := by decide +kernel
theorem dL_law_2359 : decode cL_law 2359 = .ok (.iload 6, 2) := by decide +kernel
theorem dL_law_2361 : decode cL_law 2361 = .ok (.ifCond .ne 15, 3) := by decide +kernel
theorem dL_law_2364 : decode cL_law 2364 = .ok (.aload_n 3, 1) := by decide +kernel
theorem dL_law_2365 : decode cL_law 2365 = .ok (.iconst 0, 1) := by decide +kernel
theorem dL_law_2366 : decode cL_law 2366 = .ok (.laload, 1) := by decide +kernel
theorem dL_law_2367 : decode cL_law 2367 = .ok (.iload 7, 2) := by decide +kernel
theorem dL_law_2369 : decode cL_law 2369 = .ok (.i2l, 1) := by decide +kernel
theorem dL_law_2370 : decode cL_law 2370 = .ok (.lcmp, 1) := by decide +kernel
theorem dL_law_2371 : decode cL_law 2371 = .ok (.ifCond .eq 5, 3) := by decide +kernel
theorem dL_law_2374 : decode cL_law 2374 = .ok (.iconst 0, 1) := by decide +kernel
theorem dL_law_2375 : decode cL_law 2375 = .ok (.ireturn, 1) := by decide +kernel
theorem dL_law_2376 : decode cL_law 2376 = .ok (.goto 161, 3) := by decide +kernel
theorem dL_law_2379 : decode cL_law 2379 = .ok (.aload_n 1, 1) := by decide +kernel
theorem dL_law_2380 : decode cL_law 2380 = .ok (.invokevirtual 294, 3) := by decide +kernel
theorem dL_law_2383 : decode cL_law 2383 = .ok (.aload_n 2, 1) := by decide +kernel
theorem dL_law_2384 : decode cL_law 2384 = .ok (.invokevirtual 298, 3) := by decide +kernel
theorem dL_law_2387 : decode cL_law 2387 = .ok (.lcmp, 1) := by decide +kernel
theorem dL_law_2388 : decode cL_law 2388 = .ok (.ifCond .eq 149, 3) := by decide +kernel
theorem dL_law_2391 : decode cL_law 2391 = .ok (.iconst 0, 1) := by decide +kernel
theorem dL_law_2392 : decode cL_law 2392 = .ok (.ireturn, 1) := by decide +kernel
theorem dL_law_2393 : decode cL_law 2393 = .ok (.aload_n 1, 1) := by decide +kernel
theorem dL_law_2394 : decode cL_law 2394 = .ok (.aload 4, 2) := by decide +kernel
theorem dL_law_2396 : decode cL_law 2396 = .ok (.invokestatic 299, 3) := by decide +kernel
theorem dL_law_2399 : decode cL_law 2399 = .ok (.istore 6, 2) := by decide +kernel
theorem dL_law_2401 : decode cL_law 2401 = .ok (.aload_n 2, 1) := by decide +kernel
theorem dL_law_2402 : decode cL_law 2402 = .ok (.invokevirtual 302, 3) := by decide +kernel
theorem dL_law_2405 : decode cL_law 2405 = .ok (.fstore 7, 2) := by decide +kernel
theorem dL_law_2407 : decode cL_law 2407 = .ok (.aload_n 2, 1) := by decide +kernel
theorem dL_law_2408 : decode cL_law 2408 = .ok (.invokevirtual 152, 3) := by decide +kernel
theorem dL_law_2411 : decode cL_law 2411 = .ok (.iload 6, 2) := by decide +kernel
theorem dL_law_2413 : decode cL_law 2413 = .ok (.if_icmp .eq 5, 3) := by decide +kernel
theorem dL_law_2416 : decode cL_law 2416 = .ok (.iconst 0, 1) := by decide +kernel
theorem dL_law_2417 : decode cL_law 2417 = .ok (.ireturn, 1) := by decide +kernel
theorem dL_law_2418 : decode cL_law 2418 = .ok (.iload 6, 2) := by decide +kernel
theorem dL_law_2420 : decode cL_law 2420 = .ok (.ifCond .ne 36, 3) := by decide +kernel
theorem dL_law_2423 : decode cL_law 2423 = .ok (.aload 4, 2) := by decide +kernel
theorem dL_law_2425 : decode cL_law 2425 = .ok (.iconst 0, 1) := by decide +kernel
theorem dL_law_2426 : decode cL_law 2426 = .ok (.daload, 1) := by decide +kernel
theorem dL_law_2427 : decode cL_law 2427 = .ok (.fload 7, 2) := by decide +kernel
theorem dL_law_2429 : decode cL_law 2429 = .ok (.f2d, 1) := by decide +kernel
theorem dL_law_2430 : decode cL_law 2430 = .ok (.dcmp .l, 1) := by decide +kernel
theorem dL_law_2431 : decode cL_law 2431 = .ok (.ifCond .eq 25, 3) := by decide +kernel
theorem dL_law_2434 : decode cL_law 2434 = .ok (.aload 4, 2) := by decide +kernel
theorem dL_law_2436 : decode cL_law 2436 = .ok (.iconst 0, 1) := by decide +kernel
theorem dL_law_2437 : decode cL_law 2437 = .ok (.daload, 1) := by decide +kernel
theorem dL_law_2438 : decode cL_law 2438 = .ok (.aload 4, 2) := by decide +kernel
theorem dL_law_2440 : decode cL_law 2440 = .ok (.iconst 0, 1) := by decide +kernel
theorem dL_law_2441 : decode cL_law 2441 = .ok (.daload, 1) := by decide +kernel
theorem dL_law_2442 : decode cL_law 2442 = .ok (.dcmp .l, 1) := by decide +kernel
theorem dL_law_2443 : decode cL_law 2443 = .ok (.ifCond .eq 11, 3) := by decide +kernel
theorem dL_law_2446 : decode cL_law 2446 = .ok (.fload 7, 2) := by decide +kernel
theorem dL_law_2448 : decode cL_law 2448 = .ok (.fload 7, 2) := by decide +kernel
theorem dL_law_2450 : decode cL_law 2450 = .ok (.fcmp .l, 1) := by decide +kernel
theorem dL_law_2451 : decode cL_law 2451 = .ok (.ifCond .ne 5, 3) := by decide +kernel
theorem dL_law_2454 : decode cL_law 2454 = .ok (.iconst 0, 1) := by decide +kernel
theorem dL_law_2455 : decode cL_law 2455 = .ok (.ireturn, 1) := by decide +kernel
theorem dL_law_2456 : decode cL_law 2456 = .ok (.goto 81, 3) := by decide +kernel
theorem dL_law_2459 : decode cL_law 2459 = .ok (.aload_n 1, 1) := by decide +kernel
theorem dL_law_2460 : decode cL_law 2460 = .ok (.aload 4, 2) := by decide +kernel
theorem dL_law_2462 : decode cL_law 2462 = .ok (.invokestatic 303, 3) := by decide +kernel
theorem dL_law_2465 : decode cL_law 2465 = .ok (.istore 6, 2) := by decide +kernel
theorem dL_law_2467 : decode cL_law 2467 = .ok (.aload_n 2, 1) := by decide +kernel
theorem dL_law_2468 : decode cL_law 2468 = .ok (.invokevirtual 305, 3) := by decide +kernel
theorem dL_law_2471 : decode cL_law 2471 = .ok (.dstore 7, 2) := by decide +kernel
theorem dL_law_2473 : decode cL_law 2473 = .ok (.aload_n 2, 1) := by decide +kernel
theorem dL_law_2474 : decode cL_law 2474 = .ok (.invokevirtual 152, 3) := by decide +kernel
theorem dL_law_2477 : decode cL_law 2477 = .ok (.iload 6, 2) := by decide +kernel
theorem dL_law_2479 : decode cL_law 2479 = .ok (.if_icmp .eq 5, 3) := by decide +kernel
theorem dL_law_2482 : decode cL_law 2482 = .ok (.iconst 0, 1) := by decide +kernel
theorem dL_law_2483 : decode cL_law 2483 = .ok (.ireturn, 1) := by decide +kernel
theorem dL_law_2484 : decode cL_law 2484 = .ok (.iload 6, 2) := by decide +kernel
theorem dL_law_2486 : decode cL_law 2486 = .ok (.ifCond .ne 35, 3) := by decide +kernel
theorem dL_law_2489 : decode cL_law 2489 = .ok (.aload 4, 2) := by decide +kernel
theorem dL_law_2491 : decode cL_law 2491 = .ok (.iconst 0, 1) := by decide +kernel
theorem dL_law_2492 : decode cL_law 2492 = .ok (.daload, 1) := by decide +kernel
theorem dL_law_2493 : decode cL_law 2493 = .ok (.dload 7, 2) := by decide +kernel
theorem dL_law_2495 : decode cL_law 2495 = .ok (.dcmp .l, 1) := by decide +kernel
theorem dL_law_2496 : decode cL_law 2496 = .ok (.ifCond .eq 25, 3) := by decide +kernel
theorem dL_law_2499 : decode cL_law 2499 = .ok (.aload 4, 2) := by decide +kernel
theorem dL_law_2501 : decode cL_law 2501 = .ok (.iconst 0, 1) := by decide +kernel
theorem dL_law_2502 : decode cL_law 2502 = .ok (.daload, 1) := by decide +kernel
theorem dL_law_2503 : decode cL_law 2503 = .ok (.aload 4, 2) := by decide +kernel
theorem dL_law_2505 : decode cL_law 2505 = .ok (.iconst 0, 1) := by decide +kernel
theorem dL_law_2506 : decode cL_law 2506 = .ok (.daload, 1) := by decide +kernel
theorem dL_law_2507 : decode cL_law 2507 = .ok (.dcmp .l, 1) := by decide +kernel
theorem dL_law_2508 : decode cL_law 2508 = .ok (.ifCond .eq 11, 3) := by decide +kernel
theorem dL_law_2511 : decode cL_law 2511 = .ok (.dload 7, 2) := by decide +kernel
theorem dL_law_2513 : decode cL_law 2513 = .ok (.dload 7, 2) := by decide +kernel
theorem dL_law_2515 : decode cL_law 2515 = .ok (.dcmp .l, 1) := by decide +kernel
theorem dL_law_2516 : decode cL_law 2516 = .ok (.ifCond .ne 5, 3) := by decide +kernel
theorem dL_law_2519 : decode cL_law 2519 = .ok (.iconst 0, 1) := by decide +kernel
theorem dL_law_2520 : decode cL_law 2520 = .ok (.ireturn, 1) := by decide +kernel
theorem dL_law_2521 : decode cL_law 2521 = .ok (.goto 16, 3) := by decide +kernel
theorem dL_law_2524 : decode cL_law 2524 = .ok (.aload_n 1, 1) := by decide +kernel
theorem dL_law_2525 : decode cL_law 2525 = .ok (.invokevirtual 306, 3) := by decide +kernel
theorem dL_law_2528 : decode cL_law 2528 = .ok (.aload_n 2, 1) := by decide +kernel
theorem dL_law_2529 : decode cL_law 2529 = .ok (.invokevirtual 309, 3) := by decide +kernel
theorem dL_law_2532 : decode cL_law 2532 = .ok (.if_icmp .eq 5, 3) := by decide +kernel
theorem dL_law_2535 : decode cL_law 2535 = .ok (.iconst 0, 1) := by decide +kernel
theorem dL_law_2536 : decode cL_law 2536 = .ok (.ireturn, 1) := by decide +kernel
theorem dL_law_2537 : decode cL_law 2537 = .ok (.iinc 5 4, 3) := by decide +kernel
theorem dL_law_2540 : decode cL_law 2540 = .ok (.goto (-2512), 3) := by decide +kernel
theorem dL_law_2543 : decode cL_law 2543 = .ok (.iconst 1, 1) := by decide +kernel
theorem dL_law_2544 : decode cL_law 2544 = .ok (.ireturn, 1) := by decide +kernel
