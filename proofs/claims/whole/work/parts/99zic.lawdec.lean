theorem d_W_2117 : decode code 2117 = .ok (.invokestatic 246, 3) := by decide +kernel
theorem d_W_2120 : decode code 2120 = .ok (.istore 5, 2) := by decide +kernel
theorem d_W_2122 : decode code 2122 = .ok (.aload_n 2, 1) := by decide +kernel
theorem l_W_2123 : jwLd code 2123 1 := ⟨by decide +kernel, by decide +kernel, by decide +kernel, by decide +kernel, by decide +kernel⟩
theorem l_W_2129 : jwLd code 2129 2 := ⟨by decide +kernel, by decide +kernel, by decide +kernel, by decide +kernel, by decide +kernel⟩
theorem t_W_2135 : jwTl code 2135 248 15 := ⟨by decide +kernel, by decide +kernel, by decide +kernel, by decide +kernel, by decide +kernel, by decide +kernel, by decide +kernel, by decide +kernel⟩
theorem u_W_2135 : jwTi code 2135 928 := ⟨by decide +kernel, by decide +kernel, by decide +kernel, by decide +kernel, by decide +kernel, by decide +kernel, by decide +kernel, by decide +kernel⟩
theorem d_W_2171 : decode code 2171 = .ok (.aload_n 1, 1) := by decide +kernel
theorem l_W_2172 : jwLd code 2172 1 := ⟨by decide +kernel, by decide +kernel, by decide +kernel, by decide +kernel, by decide +kernel⟩
theorem l_W_2178 : jwLd code 2178 2 := ⟨by decide +kernel, by decide +kernel, by decide +kernel, by decide +kernel, by decide +kernel⟩
theorem d_W_2184 : decode code 2184 = .ok (.aload_n 3, 1) := by decide +kernel
theorem d_W_2185 : decode code 2185 = .ok (.invokestatic 249, 3) := by decide +kernel
theorem d_W_2188 : decode code 2188 = .ok (.istore 5, 2) := by decide +kernel
theorem d_W_2190 : decode code 2190 = .ok (.aload_n 2, 1) := by decide +kernel
theorem l_W_2191 : jwLd code 2191 1 := ⟨by decide +kernel, by decide +kernel, by decide +kernel, by decide +kernel, by decide +kernel⟩
theorem l_W_2197 : jwLd code 2197 2 := ⟨by decide +kernel, by decide +kernel, by decide +kernel, by decide +kernel, by decide +kernel⟩
theorem t_W_2203 : jwTl code 2203 251 15 := ⟨by decide +kernel, by decide +kernel, by decide +kernel, by decide +kernel, by decide +kernel, by decide +kernel, by decide +kernel, by decide +kernel⟩
theorem u_W_2203 : jwTi code 2203 860 := ⟨by decide +kernel, by decide +kernel, by decide +kernel, by decide +kernel, by decide +kernel, by decide +kernel, by decide +kernel, by decide +kernel⟩
theorem d_W_2239 : decode code 2239 = .ok (.aload_n 1, 1) := by decide +kernel
theorem l_W_2240 : jwLd code 2240 1 := ⟨by decide +kernel, by decide +kernel, by decide +kernel, by decide +kernel, by decide +kernel⟩
theorem l_W_2246 : jwLd code 2246 2 := ⟨by decide +kernel, by decide +kernel, by decide +kernel, by decide +kernel, by decide +kernel⟩
theorem l_W_2252 : jwLd code 2252 3 := ⟨by decide +kernel, by decide +kernel, by decide +kernel, by decide +kernel, by decide +kernel⟩
theorem d_W_2258 : decode code 2258 = .ok (.aload_n 3, 1) := by decide +kernel
theorem d_W_2259 : decode code 2259 = .ok (.invokestatic 252, 3) := by decide +kernel
theorem d_W_2262 : decode code 2262 = .ok (.istore 5, 2) := by decide +kernel
theorem d_W_2264 : decode code 2264 = .ok (.aload_n 2, 1) := by decide +kernel
theorem l_W_2265 : jwLd code 2265 1 := ⟨by decide +kernel, by decide +kernel, by decide +kernel, by decide +kernel, by decide +kernel⟩
theorem l_W_2271 : jwLd code 2271 2 := ⟨by decide +kernel, by decide +kernel, by decide +kernel, by decide +kernel, by decide +kernel⟩
theorem l_W_2277 : jwLd code 2277 3 := ⟨by decide +kernel, by decide +kernel, by decide +kernel, by decide +kernel, by decide +kernel⟩
theorem t_W_2283 : jwTl code 2283 254 15 := ⟨by decide +kernel, by decide +kernel, by decide +kernel, by decide +kernel, by decide +kernel, by decide +kernel, by decide +kernel, by decide +kernel⟩
theorem u_W_2283 : jwTi code 2283 780 := ⟨by decide +kernel, by decide +kernel, by decide +kernel, by decide +kernel, by decide +kernel, by decide +kernel, by decide +kernel, by decide +kernel⟩
theorem d_W_2319 : decode code 2319 = .ok (.aload_n 1, 1) := by decide +kernel
theorem l_W_2320 : jwLd code 2320 1 := ⟨by decide +kernel, by decide +kernel, by decide +kernel, by decide +kernel, by decide +kernel⟩
theorem l_W_2326 : jwLd code 2326 2 := ⟨by decide +kernel, by decide +kernel, by decide +kernel, by decide +kernel, by decide +kernel⟩
theorem d_W_2332 : decode code 2332 = .ok (.aload_n 3, 1) := by decide +kernel
theorem d_W_2333 : decode code 2333 = .ok (.invokestatic 255, 3) := by decide +kernel
theorem d_W_2336 : decode code 2336 = .ok (.istore 5, 2) := by decide +kernel
theorem d_W_2338 : decode code 2338 = .ok (.aload_n 2, 1) := by decide +kernel
theorem l_W_2339 : jwLd code 2339 1 := ⟨by decide +kernel, by decide +kernel, by decide +kernel, by decide +kernel, by decide +kernel⟩
theorem l_W_2345 : jwLd code 2345 2 := ⟨by decide +kernel, by decide +kernel, by decide +kernel, by decide +kernel, by decide +kernel⟩
theorem t_W_2351 : jwTl code 2351 257 15 := ⟨by decide +kernel, by decide +kernel, by decide +kernel, by decide +kernel, by decide +kernel, by decide +kernel, by decide +kernel, by decide +kernel⟩
theorem u_W_2351 : jwTi code 2351 712 := ⟨by decide +kernel, by decide +kernel, by decide +kernel, by decide +kernel, by decide +kernel, by decide +kernel, by decide +kernel, by decide +kernel⟩
theorem d_W_2387 : decode code 2387 = .ok (.aload_n 1, 1) := by decide +kernel
theorem l_W_2388 : jwLd code 2388 1 := ⟨by decide +kernel, by decide +kernel, by decide +kernel, by decide +kernel, by decide +kernel⟩
theorem l_W_2394 : jwLd code 2394 2 := ⟨by decide +kernel, by decide +kernel, by decide +kernel, by decide +kernel, by decide +kernel⟩
theorem d_W_2400 : decode code 2400 = .ok (.aload_n 3, 1) := by decide +kernel
theorem d_W_2401 : decode code 2401 = .ok (.invokestatic 258, 3) := by decide +kernel
theorem d_W_2404 : decode code 2404 = .ok (.istore 5, 2) := by decide +kernel
theorem d_W_2406 : decode code 2406 = .ok (.aload_n 2, 1) := by decide +kernel
theorem l_W_2407 : jwLd code 2407 1 := ⟨by decide +kernel, by decide +kernel, by decide +kernel, by decide +kernel, by decide +kernel⟩
theorem l_W_2413 : jwLd code 2413 2 := ⟨by decide +kernel, by decide +kernel, by decide +kernel, by decide +kernel, by decide +kernel⟩
theorem t_W_2419 : jwTl code 2419 260 15 := ⟨by decide +kernel, by decide +kernel, by decide +kernel, by decide +kernel, by decide +kernel, by decide +kernel, by decide +kernel, by decide +kernel⟩
theorem u_W_2419 : jwTi code 2419 644 := ⟨by decide +kernel, by decide +kernel, by decide +kernel, by decide +kernel, by decide +kernel, by decide +kernel, by decide +kernel, by decide +kernel⟩
theorem d_W_2455 : decode code 2455 = .ok (.aload_n 1, 1) := by decide +kernel
theorem l_W_2456 : jwLd code 2456 1 := ⟨by decide +kernel, by decide +kernel, by decide +kernel, by decide +kernel, by decide +kernel⟩
theorem l_W_2462 : jwLd code 2462 2 := ⟨by decide +kernel, by decide +kernel, by decide +kernel, by decide +kernel, by decide +kernel⟩
theorem d_W_2468 : decode code 2468 = .ok (.aload_n 3, 1) := by decide +kernel
theorem d_W_2469 : decode code 2469 = .ok (.invokestatic 261, 3) := by decide +kernel
theorem d_W_2472 : decode code 2472 = .ok (.istore 5, 2) := by decide +kernel
theorem d_W_2474 : decode code 2474 = .ok (.aload_n 2, 1) := by decide +kernel
theorem l_W_2475 : jwLd code 2475 1 := ⟨by decide +kernel, by decide +kernel, by decide +kernel, by decide +kernel, by decide +kernel⟩
theorem l_W_2481 : jwLd code 2481 2 := ⟨by decide +kernel, by decide +kernel, by decide +kernel, by decide +kernel, by decide +kernel⟩
theorem t_W_2487 : jwTl code 2487 263 15 := ⟨by decide +kernel, by decide +kernel, by decide +kernel, by decide +kernel, by decide +kernel, by decide +kernel, by decide +kernel, by decide +kernel⟩
theorem u_W_2487 : jwTi code 2487 576 := ⟨by decide +kernel, by decide +kernel, by decide +kernel, by decide +kernel, by decide +kernel, by decide +kernel, by decide +kernel, by decide +kernel⟩
theorem d_W_2523 : decode code 2523 = .ok (.aload_n 1, 1) := by decide +kernel
theorem l_W_2524 : jwLd code 2524 1 := ⟨by decide +kernel, by decide +kernel, by decide +kernel, by decide +kernel, by decide +kernel⟩
theorem l_W_2530 : jwLd code 2530 2 := ⟨by decide +kernel, by decide +kernel, by decide +kernel, by decide +kernel, by decide +kernel⟩
theorem l_W_2536 : jwLd code 2536 3 := ⟨by decide +kernel, by decide +kernel, by decide +kernel, by decide +kernel, by decide +kernel⟩
theorem l_W_2542 : jwLd code 2542 4 := ⟨by decide +kernel, by decide +kernel, by decide +kernel, by decide +kernel, by decide +kernel⟩
theorem d_W_2548 : decode code 2548 = .ok (.aload_n 3, 1) := by decide +kernel
theorem d_W_2549 : decode code 2549 = .ok (.invokestatic 264, 3) := by decide +kernel
theorem d_W_2552 : decode code 2552 = .ok (.istore 5, 2) := by decide +kernel
theorem d_W_2554 : decode code 2554 = .ok (.aload_n 2, 1) := by decide +kernel
theorem l_W_2555 : jwLd code 2555 1 := ⟨by decide +kernel, by decide +kernel, by decide +kernel, by decide +kernel, by decide +kernel⟩
theorem l_W_2561 : jwLd code 2561 2 := ⟨by decide +kernel, by decide +kernel, by decide +kernel, by decide +kernel, by decide +kernel⟩
theorem l_W_2567 : jwLd code 2567 3 := ⟨by decide +kernel, by decide +kernel, by decide +kernel, by decide +kernel, by decide +kernel⟩
theorem l_W_2573 : jwLd code 2573 4 := ⟨by decide +kernel, by decide +kernel, by decide +kernel, by decide +kernel, by decide +kernel⟩
theorem t_W_2579 : jwTl code 2579 266 15 := ⟨by decide +kernel, by decide +kernel, by decide +kernel, by decide +kernel, by decide +kernel, by decide +kernel, by decide +kernel, by decide +kernel⟩
theorem u_W_2579 : jwTi code 2579 484 := ⟨by decide +kernel, by decide +kernel, by decide +kernel, by decide +kernel, by decide +kernel, by decide +kernel, by decide +kernel, by decide +kernel⟩
theorem d_W_2615 : decode code 2615 = .ok (.aload_n 1, 1) := by decide +kernel
theorem l_W_2616 : jwLd code 2616 1 := ⟨by decide +kernel, by decide +kernel, by decide +kernel, by decide +kernel, by decide +kernel⟩
theorem l_W_2622 : jwLd code 2622 2 := ⟨by decide +kernel, by decide +kernel, by decide +kernel, by decide +kernel, by decide +kernel⟩
theorem l_W_2628 : jwLd code 2628 3 := ⟨by decide +kernel, by decide +kernel, by decide +kernel, by decide +kernel, by decide +kernel⟩
theorem l_W_2634 : jwLd code 2634 4 := ⟨by decide +kernel, by decide +kernel, by decide +kernel, by decide +kernel, by decide +kernel⟩
theorem d_W_2640 : decode code 2640 = .ok (.aload_n 3, 1) := by decide +kernel
theorem d_W_2641 : decode code 2641 = .ok (.invokestatic 267, 3) := by decide +kernel
theorem d_W_2644 : decode code 2644 = .ok (.istore 5, 2) := by decide +kernel
theorem d_W_2646 : decode code 2646 = .ok (.aload_n 2, 1) := by decide +kernel
theorem l_W_2647 : jwLd code 2647 1 := ⟨by decide +kernel, by decide +kernel, by decide +kernel, by decide +kernel, by decide +kernel⟩
theorem l_W_2653 : jwLd code 2653 2 := ⟨by decide +kernel, by decide +kernel, by decide +kernel, by decide +kernel, by decide +kernel⟩
theorem l_W_2659 : jwLd code 2659 3 := ⟨by decide +kernel, by decide +kernel, by decide +kernel, by decide +kernel, by decide +kernel⟩
theorem l_W_2665 : jwLd code 2665 4 := ⟨by decide +kernel, by decide +kernel, by decide +kernel, by decide +kernel, by decide +kernel⟩
theorem t_W_2671 : jwTl code 2671 269 15 := ⟨by decide +kernel, by decide +kernel, by decide +kernel, by decide +kernel, by decide +kernel, by decide +kernel, by decide +kernel, by decide +kernel⟩
theorem u_W_2671 : jwTi code 2671 392 := ⟨by decide +kernel, by decide +kernel, by decide +kernel, by decide +kernel, by decide +kernel, by decide +kernel, by decide +kernel, by decide +kernel⟩
theorem d_W_2707 : decode code 2707 = .ok (.aload_n 1, 1) := by decide +kernel
theorem l_W_2708 : jwLd code 2708 1 := ⟨by decide +kernel, by decide +kernel, by decide +kernel, by decide +kernel, by decide +kernel⟩
theorem l_W_2714 : jwLd code 2714 2 := ⟨by decide +kernel, by decide +kernel, by decide +kernel, by decide +kernel, by decide +kernel⟩
theorem d_W_2720 : decode code 2720 = .ok (.aload_n 3, 1) := by decide +kernel
theorem d_W_2721 : decode code 2721 = .ok (.invokestatic 270, 3) := by decide +kernel
theorem d_W_2724 : decode code 2724 = .ok (.istore 5, 2) := by decide +kernel
theorem d_W_2726 : decode code 2726 = .ok (.aload_n 2, 1) := by decide +kernel
theorem l_W_2727 : jwLd code 2727 1 := ⟨by decide +kernel, by decide +kernel, by decide +kernel, by decide +kernel, by decide +kernel⟩
theorem l_W_2733 : jwLd code 2733 2 := ⟨by decide +kernel, by decide +kernel, by decide +kernel, by decide +kernel, by decide +kernel⟩
theorem t_W_2739 : jwTl code 2739 272 15 := ⟨by decide +kernel, by decide +kernel, by decide +kernel, by decide +kernel, by decide +kernel, by decide +kernel, by decide +kernel, by decide +kernel⟩
theorem u_W_2739 : jwTi code 2739 324 := ⟨by decide +kernel, by decide +kernel, by decide +kernel, by decide +kernel, by decide +kernel, by decide +kernel, by decide +kernel, by decide +kernel⟩
theorem d_W_2775 : decode code 2775 = .ok (.aload_n 1, 1) := by decide +kernel
theorem l_W_2776 : jwLd code 2776 1 := ⟨by decide +kernel, by decide +kernel, by decide +kernel, by decide +kernel, by decide +kernel⟩
theorem d_W_2782 : decode code 2782 = .ok (.aload_n 3, 1) := by decide +kernel
theorem d_W_2783 : decode code 2783 = .ok (.invokestatic 273, 3) := by decide +kernel
theorem d_W_2786 : decode code 2786 = .ok (.istore 5, 2) := by decide +kernel
theorem d_W_2788 : decode code 2788 = .ok (.aload_n 2, 1) := by decide +kernel
theorem l_W_2789 : jwLd code 2789 1 := ⟨by decide +kernel, by decide +kernel, by decide +kernel, by decide +kernel, by decide +kernel⟩
theorem t_W_2795 : jwTl code 2795 275 15 := ⟨by decide +kernel, by decide +kernel, by decide +kernel, by decide +kernel, by decide +kernel, by decide +kernel, by decide +kernel, by decide +kernel⟩
theorem u_W_2795 : jwTi code 2795 268 := ⟨by decide +kernel, by decide +kernel, by decide +kernel, by decide +kernel, by decide +kernel, by decide +kernel, by decide +kernel, by decide +kernel⟩
theorem d_W_2831 : decode code 2831 = .ok (.aload_n 1, 1) := by decide +kernel
theorem l_W_2832 : jwLd code 2832 1 := ⟨by decide +kernel, by decide +kernel, by decide +kernel, by decide +kernel, by decide +kernel⟩
theorem d_W_2838 : decode code 2838 = .ok (.aload_n 3, 1) := by decide +kernel
theorem d_W_2839 : decode code 2839 = .ok (.invokestatic 276, 3) := by decide +kernel
theorem d_W_2842 : decode code 2842 = .ok (.istore 5, 2) := by decide +kernel
theorem d_W_2844 : decode code 2844 = .ok (.aload_n 2, 1) := by decide +kernel
theorem l_W_2845 : jwLd code 2845 1 := ⟨by decide +kernel, by decide +kernel, by decide +kernel, by decide +kernel, by decide +kernel⟩
theorem t_W_2851 : jwTl code 2851 278 15 := ⟨by decide +kernel, by decide +kernel, by decide +kernel, by decide +kernel, by decide +kernel, by decide +kernel, by decide +kernel, by decide +kernel⟩
theorem u_W_2851 : jwTi code 2851 212 := ⟨by decide +kernel, by decide +kernel, by decide +kernel, by decide +kernel, by decide +kernel, by decide +kernel, by decide +kernel, by decide +kernel⟩
theorem d_W_2887 : decode code 2887 = .ok (.aload_n 1, 1) := by decide +kernel
theorem l_W_2888 : jwLd code 2888 1 := ⟨by decide +kernel, by decide +kernel, by decide +kernel, by decide +kernel, by decide +kernel⟩
theorem l_W_2894 : jwLd code 2894 2 := ⟨by decide +kernel, by decide +kernel, by decide +kernel, by decide +kernel, by decide +kernel⟩
theorem l_W_2900 : jwLd code 2900 3 := ⟨by decide +kernel, by decide +kernel, by decide +kernel, by decide +kernel, by decide +kernel⟩
theorem l_W_2906 : jwLd code 2906 4 := ⟨by decide +kernel, by decide +kernel, by decide +kernel, by decide +kernel, by decide +kernel⟩
theorem d_W_2912 : decode code 2912 = .ok (.aload_n 3, 1) := by decide +kernel
theorem d_W_2913 : decode code 2913 = .ok (.invokestatic 279, 3) := by decide +kernel
theorem d_W_2916 : decode code 2916 = .ok (.istore 5, 2) := by decide +kernel
theorem d_W_2918 : decode code 2918 = .ok (.aload_n 2, 1) := by decide +kernel
theorem l_W_2919 : jwLd code 2919 1 := ⟨by decide +kernel, by decide +kernel, by decide +kernel, by decide +kernel, by decide +kernel⟩
theorem l_W_2925 : jwLd code 2925 2 := ⟨by decide +kernel, by decide +kernel, by decide +kernel, by decide +kernel, by decide +kernel⟩
theorem l_W_2931 : jwLd code 2931 3 := ⟨by decide +kernel, by decide +kernel, by decide +kernel, by decide +kernel, by decide +kernel⟩
theorem l_W_2937 : jwLd code 2937 4 := ⟨by decide +kernel, by decide +kernel, by decide +kernel, by decide +kernel, by decide +kernel⟩
theorem t_W_2943 : jwTl code 2943 281 15 := ⟨by decide +kernel, by decide +kernel, by decide +kernel, by decide +kernel, by decide +kernel, by decide +kernel, by decide +kernel, by decide +kernel⟩
theorem u_W_2943 : jwTi code 2943 120 := ⟨by decide +kernel, by decide +kernel, by decide +kernel, by decide +kernel, by decide +kernel, by decide +kernel, by decide +kernel, by decide +kernel⟩
theorem d_W_2979 : decode code 2979 = .ok (.aload_n 1, 1) := by decide +kernel
theorem l_W_2980 : jwLd code 2980 1 := ⟨by decide +kernel, by decide +kernel, by decide +kernel, by decide +kernel, by decide +kernel⟩
theorem l_W_2986 : jwLd code 2986 2 := ⟨by decide +kernel, by decide +kernel, by decide +kernel, by decide +kernel, by decide +kernel⟩
theorem d_W_2992 : decode code 2992 = .ok (.aload_n 3, 1) := by decide +kernel
theorem d_W_2993 : decode code 2993 = .ok (.invokestatic 282, 3) := by decide +kernel
theorem d_W_2996 : decode code 2996 = .ok (.istore 5, 2) := by decide +kernel
theorem d_W_2998 : decode code 2998 = .ok (.aload_n 2, 1) := by decide +kernel
theorem l_W_2999 : jwLd code 2999 1 := ⟨by decide +kernel, by decide +kernel, by decide +kernel, by decide +kernel, by decide +kernel⟩
theorem l_W_3005 : jwLd code 3005 2 := ⟨by decide +kernel, by decide +kernel, by decide +kernel, by decide +kernel, by decide +kernel⟩
theorem t_W_3011 : jwTl code 3011 284 15 := ⟨by decide +kernel, by decide +kernel, by decide +kernel, by decide +kernel, by decide +kernel, by decide +kernel, by decide +kernel, by decide +kernel⟩
theorem u_W_3011 : jwTi code 3011 52 := ⟨by decide +kernel, by decide +kernel, by decide +kernel, by decide +kernel, by decide +kernel, by decide +kernel, by decide +kernel, by decide +kernel⟩
theorem d_W_3047 : decode code 3047 = .ok (.aload_n 1, 1) := by decide +kernel
theorem d_W_3048 : decode code 3048 = .ok (.invokevirtual 285, 3) := by decide +kernel
theorem d_W_3051 : decode code 3051 = .ok (.aload_n 2, 1) := by decide +kernel
theorem d_W_3052 : decode code 3052 = .ok (.invokevirtual 288, 3) := by decide +kernel
theorem d_W_3055 : decode code 3055 = .ok (.goto 41, 3) := by decide +kernel
theorem d_W_3058 : decode code 3058 = .ok (.aload_n 1, 1) := by decide +kernel
theorem d_W_3059 : decode code 3059 = .ok (.invokevirtual 289, 3) := by decide +kernel
theorem d_W_3062 : decode code 3062 = .ok (.aload_n 2, 1) := by decide +kernel
theorem d_W_3063 : decode code 3063 = .ok (.invokevirtual 293, 3) := by decide +kernel
theorem d_W_3066 : decode code 3066 = .ok (.if_icmp .eq 30, 3) := by decide +kernel
theorem d_W_3071 : decode code 3071 = .ok (.aload_n 1, 1) := by decide +kernel
theorem l_W_3072 : jwLd code 3072 1 := ⟨by decide +kernel, by decide +kernel, by decide +kernel, by decide +kernel, by decide +kernel⟩
theorem d_W_3078 : decode code 3078 = .ok (.invokevirtual 294, 3) := by decide +kernel
theorem d_W_3081 : decode code 3081 = .ok (.aload_n 2, 1) := by decide +kernel
theorem l_W_3082 : jwLd code 3082 1 := ⟨by decide +kernel, by decide +kernel, by decide +kernel, by decide +kernel, by decide +kernel⟩
theorem d_W_3088 : decode code 3088 = .ok (.invokevirtual 297, 3) := by decide +kernel
theorem d_W_3091 : decode code 3091 = .ok (.if_icmp .eq 5, 3) := by decide +kernel
theorem d_W_3096 : decode code 3096 = .ok (.iinc 4 6, 3) := by decide +kernel
theorem d_W_3099 : decode code 3099 = .ok (.goto (-3076), 3) := by decide +kernel
theorem d_W_3102 : decode code 3102 = .ok (.iconst 1, 1) := by decide +kernel
theorem d_W_3103 : decode code 3103 = .ok (.ireturn, 1) := by decide +kernel
