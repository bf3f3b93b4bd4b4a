theorem dL_law_2355 : decode cL_law 2355 = .ok (.iadd, 1) := by decide +kernel
theorem dL_law_2356 : decode cL_law 2356 = .ok (.iaload, 1) := by decide +kernel
theorem dL_law_2357 : decode cL_law 2357 = .ok (.ifCond .eq 7, 3) := by decide +kernel
theorem dL_law_2360 : decode cL_law 2360 = .ok (.iconst 1, 1) := by decide +kernel
theorem dL_law_2361 : decode cL_law 2361 = .ok (.goto 4, 3) := by decide +kernel
theorem dL_law_2364 : decode cL_law 2364 = .ok (.iconst 0, 1) := by decide +kernel
theorem dL_law_2365 : decode cL_law 2365 = .ok (.aload_n 0, 1) := by decide +kernel
theorem dL_law_2366 : decode cL_law 2366 = .ok (.iload 4, 2) := by decide +kernel
theorem dL_law_2368 : decode cL_law 2368 = .ok (.iconst 3, 1) := by decide +kernel
theorem dL_law_2369 : decode cL_law 2369 = .ok (.iadd, 1) := by decide +kernel
theorem dL_law_2370 : decode cL_law 2370 = .ok (.iaload, 1) := by decide +kernel
theorem dL_law_2371 : decode cL_law 2371 = .ok (.invokevirtual 281, 3) := by decide +kernel
theorem dL_law_2374 : decode cL_law 2374 = .ok (.istore 6, 2) := by decide +kernel
theorem dL_law_2376 : decode cL_law 2376 = .ok (.aload_n 2, 1) := by decide +kernel
theorem dL_law_2377 : decode cL_law 2377 = .ok (.invokevirtual 148, 3) := by decide +kernel
theorem dL_law_2380 : decode cL_law 2380 = .ok (.iload 5, 2) := by decide +kernel
theorem dL_law_2382 : decode cL_law 2382 = .ok (.if_icmp .eq 5, 3) := by decide +kernel
theorem dL_law_2385 : decode cL_law 2385 = .ok (.iconst 0, 1) := by decide +kernel
theorem dL_law_2386 : decode cL_law 2386 = .ok (.ireturn, 1) := by decide +kernel
theorem dL_law_2387 : decode cL_law 2387 = .ok (.iload 5, 2) := by decide +kernel
theorem dL_law_2389 : decode cL_law 2389 = .ok (.ifCond .ne 15, 3) := by decide +kernel
theorem dL_law_2392 : decode cL_law 2392 = .ok (.aload_n 3, 1) := by decide +kernel
theorem dL_law_2393 : decode cL_law 2393 = .ok (.iconst 0, 1) := by decide +kernel
theorem dL_law_2394 : decode cL_law 2394 = .ok (.laload, 1) := by decide +kernel
theorem dL_law_2395 : decode cL_law 2395 = .ok (.iload 6, 2) := by decide +kernel
theorem dL_law_2397 : decode cL_law 2397 = .ok (.i2l, 1) := by decide +kernel
theorem dL_law_2398 : decode cL_law 2398 = .ok (.lcmp, 1) := by decide +kernel
theorem dL_law_2399 : decode cL_law 2399 = .ok (.ifCond .eq 5, 3) := by decide +kernel
theorem dL_law_2402 : decode cL_law 2402 = .ok (.iconst 0, 1) := by decide +kernel
theorem dL_law_2403 : decode cL_law 2403 = .ok (.ireturn, 1) := by decide +kernel
theorem dL_law_2404 : decode cL_law 2404 = .ok (.goto 407, 3) := by decide +kernel
theorem dL_law_2407 : decode cL_law 2407 = .ok (.aload_n 1, 1) := by decide +kernel
theorem dL_law_2408 : decode cL_law 2408 = .ok (.aload_n 0, 1) := by decide +kernel
theorem dL_law_2409 : decode cL_law 2409 = .ok (.iload 4, 2) := by decide +kernel
theorem dL_law_2411 : decode cL_law 2411 = .ok (.iconst 1, 1) := by decide +kernel
theorem dL_law_2412 : decode cL_law 2412 = .ok (.iadd, 1) := by decide +kernel
theorem dL_law_2413 : decode cL_law 2413 = .ok (.iaload, 1) := by decide +kernel
theorem dL_law_2414 : decode cL_law 2414 = .ok (.aload_n 0, 1) := by decide +kernel
theorem dL_law_2415 : decode cL_law 2415 = .ok (.iload 4, 2) := by decide +kernel
theorem dL_law_2417 : decode cL_law 2417 = .ok (.iconst 2, 1) := by decide +kernel
theorem dL_law_2418 : decode cL_law 2418 = .ok (.iadd, 1) := by decide +kernel
theorem dL_law_2419 : decode cL_law 2419 = .ok (.iaload, 1) := by decide +kernel
theorem dL_law_2420 : decode cL_law 2420 = .ok (.aload_n 0, 1) := by decide +kernel
theorem dL_law_2421 : decode cL_law 2421 = .ok (.iload 4, 2) := by decide +kernel
theorem dL_law_2423 : decode cL_law 2423 = .ok (.iconst 3, 1) := by decide +kernel
theorem dL_law_2424 : decode cL_law 2424 = .ok (.iadd, 1) := by decide +kernel
theorem dL_law_2425 : decode cL_law 2425 = .ok (.iaload, 1) := by decide +kernel
theorem dL_law_2426 : decode cL_law 2426 = .ok (.aload_n 3, 1) := by decide +kernel
theorem dL_law_2427 : decode cL_law 2427 = .ok (.invokestatic 282, 3) := by decide +kernel
theorem dL_law_2430 : decode cL_law 2430 = .ok (.istore 5, 2) := by decide +kernel
theorem dL_law_2432 : decode cL_law 2432 = .ok (.aload_n 2, 1) := by decide +kernel
theorem dL_law_2433 : decode cL_law 2433 = .ok (.aload_n 0, 1) := by decide +kernel
theorem dL_law_2434 : decode cL_law 2434 = .ok (.iload 4, 2) := by decide +kernel
theorem dL_law_2436 : decode cL_law 2436 = .ok (.iconst 1, 1) := by decide +kernel
theorem dL_law_2437 : decode cL_law 2437 = .ok (.iadd, 1) := by decide +kernel
theorem dL_law_2438 : decode cL_law 2438 = .ok (.iaload, 1) := by decide +kernel
theorem dL_law_2439 : decode cL_law 2439 = .ok (.aload_n 0, 1) := by decide +kernel
theorem dL_law_2440 : decode cL_law 2440 = .ok (.iload 4, 2) := by decide +kernel
theorem dL_law_2442 : decode cL_law 2442 = .ok (.iconst 2, 1) := by decide +kernel
theorem dL_law_2443 : decode cL_law 2443 = .ok (.iadd, 1) := by decide +kernel
theorem dL_law_2444 : decode cL_law 2444 = .ok (.iaload, 1) := by decide +kernel
theorem dL_law_2445 : decode cL_law 2445 = .ok (.aload_n 0, 1) := by decide +kernel
theorem dL_law_2446 : decode cL_law 2446 = .ok (.iload 4, 2) := by decide +kernel
theorem dL_law_2448 : decode cL_law 2448 = .ok (.iconst 3, 1) := by decide +kernel
theorem dL_law_2449 : decode cL_law 2449 = .ok (.iadd, 1) := by decide +kernel
theorem dL_law_2450 : decode cL_law 2450 = .ok (.iaload, 1) := by decide +kernel
theorem dL_law_2451 : decode cL_law 2451 = .ok (.invokevirtual 284, 3) := by decide +kernel
theorem dL_law_2454 : decode cL_law 2454 = .ok (.istore 6, 2) := by decide +kernel
theorem dL_law_2456 : decode cL_law 2456 = .ok (.aload_n 2, 1) := by decide +kernel
theorem dL_law_2457 : decode cL_law 2457 = .ok (.invokevirtual 148, 3) := by decide +kernel
theorem dL_law_2460 : decode cL_law 2460 = .ok (.iload 5, 2) := by decide +kernel
theorem dL_law_2462 : decode cL_law 2462 = .ok (.if_icmp .eq 5, 3) := by decide +kernel
theorem dL_law_2465 : decode cL_law 2465 = .ok (.iconst 0, 1) := by decide +kernel
theorem dL_law_2466 : decode cL_law 2466 = .ok (.ireturn, 1) := by decide +kernel
theorem dL_law_2467 : decode cL_law 2467 = .ok (.iload 5, 2) := by decide +kernel
theorem dL_law_2469 : decode cL_law 2469 = .ok (.ifCond .ne 15, 3) := by decide +kernel
theorem dL_law_2472 : decode cL_law 2472 = .ok (.aload_n 3, 1) := by decide +kernel
theorem dL_law_2473 : decode cL_law 2473 = .ok (.iconst 0, 1) := by decide +kernel
theorem dL_law_2474 : decode cL_law 2474 = .ok (.laload, 1) := by decide +kernel
theorem dL_law_2475 : decode cL_law 2475 = .ok (.iload 6, 2) := by decide +kernel
theorem dL_law_2477 : decode cL_law 2477 = .ok (.i2l, 1) := by decide +kernel
theorem dL_law_2478 : decode cL_law 2478 = .ok (.lcmp, 1) := by decide +kernel
theorem dL_law_2479 : decode cL_law 2479 = .ok (.ifCond .eq 5, 3) := by decide +kernel
theorem dL_law_2482 : decode cL_law 2482 = .ok (.iconst 0, 1) := by decide +kernel
theorem dL_law_2483 : decode cL_law 2483 = .ok (.ireturn, 1) := by decide +kernel
theorem dL_law_2484 : decode cL_law 2484 = .ok (.goto 327, 3) := by decide +kernel
theorem dL_law_2487 : decode cL_law 2487 = .ok (.aload_n 1, 1) := by decide +kernel
theorem dL_law_2488 : decode cL_law 2488 = .ok (.aload_n 0, 1) := by decide +kernel
theorem dL_law_2489 : decode cL_law 2489 = .ok (.iload 4, 2) := by decide +kernel
theorem dL_law_2491 : decode cL_law 2491 = .ok (.iconst 1, 1) := by decide +kernel
theorem dL_law_2492 : decode cL_law 2492 = .ok (.iadd, 1) := by decide +kernel
theorem dL_law_2493 : decode cL_law 2493 = .ok (.iaload, 1) := by decide +kernel
theorem dL_law_2494 : decode cL_law 2494 = .ok (.aload_n 0, 1) := by decide +kernel
theorem dL_law_2495 : decode cL_law 2495 = .ok (.iload 4, 2) := by decide +kernel
theorem dL_law_2497 : decode cL_law 2497 = .ok (.iconst 2, 1) := by decide +kernel
theorem dL_law_2498 : decode cL_law 2498 = .ok (.iadd, 1) := by decide +kernel
theorem dL_law_2499 : decode cL_law 2499 = .ok (.iaload, 1) := by decide +kernel
theorem dL_law_2500 : decode cL_law 2500 = .ok (.aload_n 0, 1) := by decide +kernel
theorem dL_law_2501 : decode cL_law 2501 = .ok (.iload 4, 2) := by decide +kernel
theorem dL_law_2503 : decode cL_law 2503 = .ok (.iconst 3, 1) := by decide +kernel
