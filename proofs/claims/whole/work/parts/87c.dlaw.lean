theorem dL_law_2643 : decode code 2643 = .ok (.aload_n 3, 1) := decode_sh lwA41 (q := 19) (by decide +kernel) 45 ⟨by decide +kernel, by decide +kernel⟩ rfl
theorem dL_law_2644 : decode code 2644 = .ok (.iconst 0, 1) := decode_sh lwA41 (q := 20) (by decide +kernel) 3 ⟨by decide +kernel, by decide +kernel⟩ rfl
theorem dL_law_2645 : decode code 2645 = .ok (.laload, 1) := decode_sh lwA41 (q := 21) (by decide +kernel) 47 ⟨by decide +kernel, by decide +kernel⟩ rfl
theorem dL_law_2646 : decode code 2646 = .ok (.iload 7, 2) := decode_sh lwA41 (q := 22) (by decide +kernel) 21 ⟨by decide +kernel, by decide +kernel⟩ rfl
theorem dL_law_2648 : decode code 2648 = .ok (.i2l, 1) := decode_sh lwA41 (q := 24) (by decide +kernel) 133 ⟨by decide +kernel, by decide +kernel⟩ rfl
theorem dL_law_2649 : decode code 2649 = .ok (.lcmp, 1) := decode_sh lwA41 (q := 25) (by decide +kernel) 148 ⟨by decide +kernel, by decide +kernel⟩ rfl
theorem dL_law_2650 : decode code 2650 = .ok (.ifCond .eq 5, 3) := decode_sh lwA41 (q := 26) (by decide +kernel) 153 ⟨by decide +kernel, by decide +kernel⟩ rfl
theorem dL_law_2653 : decode code 2653 = .ok (.iconst 0, 1) := decode_sh lwA41 (q := 29) (by decide +kernel) 3 ⟨by decide +kernel, by decide +kernel⟩ rfl
theorem dL_law_2654 : decode code 2654 = .ok (.ireturn, 1) := decode_sh lwA41 (q := 30) (by decide +kernel) 172 ⟨by decide +kernel, by decide +kernel⟩ rfl
theorem dL_law_2655 : decode code 2655 = .ok (.goto 1140, 3) := decode_sh lwA41 (q := 31) (by decide +kernel) 167 ⟨by decide +kernel, by decide +kernel⟩ rfl
theorem dL_law_2658 : decode code 2658 = .ok (.aload_n 1, 1) := decode_sh lwA41 (q := 34) (by decide +kernel) 43 ⟨by decide +kernel, by decide +kernel⟩ rfl
theorem dL_law_2659 : decode code 2659 = .ok (.aload_n 0, 1) := decode_sh lwA41 (q := 35) (by decide +kernel) 42 ⟨by decide +kernel, by decide +kernel⟩ rfl
theorem dL_law_2660 : decode code 2660 = .ok (.iload 5, 2) := decode_sh lwA41 (q := 36) (by decide +kernel) 21 ⟨by decide +kernel, by decide +kernel⟩ rfl
theorem dL_law_2662 : decode code 2662 = .ok (.iconst 1, 1) := decode_sh lwA41 (q := 38) (by decide +kernel) 4 ⟨by decide +kernel, by decide +kernel⟩ rfl
theorem dL_law_2663 : decode code 2663 = .ok (.iadd, 1) := decode_sh lwA41 (q := 39) (by decide +kernel) 96 ⟨by decide +kernel, by decide +kernel⟩ rfl
theorem dL_law_2664 : decode code 2664 = .ok (.iaload, 1) := decode_sh lwA41 (q := 40) (by decide +kernel) 46 ⟨by decide +kernel, by decide +kernel⟩ rfl
theorem dL_law_2665 : decode code 2665 = .ok (.aload_n 3, 1) := decode_sh lwA41 (q := 41) (by decide +kernel) 45 ⟨by decide +kernel, by decide +kernel⟩ rfl
theorem dL_law_2666 : decode code 2666 = .ok (.invokestatic 348, 3) := decode_sh lwA41 (q := 42) (by decide +kernel) 184 ⟨by decide +kernel, by decide +kernel⟩ rfl
theorem dL_law_2669 : decode code 2669 = .ok (.istore 6, 2) := decode_sh lwA41 (q := 45) (by decide +kernel) 54 ⟨by decide +kernel, by decide +kernel⟩ rfl
theorem dL_law_2671 : decode code 2671 = .ok (.aload_n 2, 1) := decode_sh lwA41 (q := 47) (by decide +kernel) 44 ⟨by decide +kernel, by decide +kernel⟩ rfl
theorem dL_law_2672 : decode code 2672 = .ok (.aload_n 0, 1) := decode_sh lwA41 (q := 48) (by decide +kernel) 42 ⟨by decide +kernel, by decide +kernel⟩ rfl
theorem dL_law_2673 : decode code 2673 = .ok (.iload 5, 2) := decode_sh lwA41 (q := 49) (by decide +kernel) 21 ⟨by decide +kernel, by decide +kernel⟩ rfl
theorem dL_law_2675 : decode code 2675 = .ok (.iconst 1, 1) := decode_sh lwA41 (q := 51) (by decide +kernel) 4 ⟨by decide +kernel, by decide +kernel⟩ rfl
theorem dL_law_2676 : decode code 2676 = .ok (.iadd, 1) := decode_sh lwA41 (q := 52) (by decide +kernel) 96 ⟨by decide +kernel, by decide +kernel⟩ rfl
theorem dL_law_2677 : decode code 2677 = .ok (.iaload, 1) := decode_sh lwA41 (q := 53) (by decide +kernel) 46 ⟨by decide +kernel, by decide +kernel⟩ rfl
theorem dL_law_2678 : decode code 2678 = .ok (.invokevirtual 350, 3) := decode_sh lwA41 (q := 54) (by decide +kernel) 182 ⟨by decide +kernel, by decide +kernel⟩ rfl
theorem dL_law_2681 : decode code 2681 = .ok (.istore 7, 2) := decode_sh lwA41 (q := 57) (by decide +kernel) 54 ⟨by decide +kernel, by decide +kernel⟩ rfl
theorem dL_law_2683 : decode code 2683 = .ok (.aload_n 2, 1) := decode_sh lwA41 (q := 59) (by decide +kernel) 44 ⟨by decide +kernel, by decide +kernel⟩ rfl
theorem dL_law_2684 : decode code 2684 = .ok (.invokevirtual 213, 3) := decode_sh lwA41 (q := 60) (by decide +kernel) 182 ⟨by decide +kernel, by decide +kernel⟩ rfl
theorem dL_law_2687 : decode code 2687 = .ok (.iload 6, 2) := decode_sh lwA41 (q := 63) (by decide +kernel) 21 ⟨by decide +kernel, by decide +kernel⟩ rfl
theorem dL_law_2689 : decode code 2689 = .ok (.if_icmp .eq 5, 3) := decode_sh lwA42 (q := 1) (by decide +kernel) 159 ⟨by decide +kernel, by decide +kernel⟩ rfl
theorem dL_law_2692 : decode code 2692 = .ok (.iconst 0, 1) := decode_sh lwA42 (q := 4) (by decide +kernel) 3 ⟨by decide +kernel, by decide +kernel⟩ rfl
theorem dL_law_2693 : decode code 2693 = .ok (.ireturn, 1) := decode_sh lwA42 (q := 5) (by decide +kernel) 172 ⟨by decide +kernel, by decide +kernel⟩ rfl
theorem dL_law_2694 : decode code 2694 = .ok (.iload 6, 2) := decode_sh lwA42 (q := 6) (by decide +kernel) 21 ⟨by decide +kernel, by decide +kernel⟩ rfl
theorem dL_law_2696 : decode code 2696 = .ok (.ifCond .ne 15, 3) := decode_sh lwA42 (q := 8) (by decide +kernel) 154 ⟨by decide +kernel, by decide +kernel⟩ rfl
theorem dL_law_2699 : decode code 2699 = .ok (.aload_n 3, 1) := decode_sh lwA42 (q := 11) (by decide +kernel) 45 ⟨by decide +kernel, by decide +kernel⟩ rfl
theorem dL_law_2700 : decode code 2700 = .ok (.iconst 0, 1) := decode_sh lwA42 (q := 12) (by decide +kernel) 3 ⟨by decide +kernel, by decide +kernel⟩ rfl
theorem dL_law_2701 : decode code 2701 = .ok (.laload, 1) := decode_sh lwA42 (q := 13) (by decide +kernel) 47 ⟨by decide +kernel, by decide +kernel⟩ rfl
theorem dL_law_2702 : decode code 2702 = .ok (.iload 7, 2) := decode_sh lwA42 (q := 14) (by decide +kernel) 21 ⟨by decide +kernel, by decide +kernel⟩ rfl
theorem dL_law_2704 : decode code 2704 = .ok (.i2l, 1) := decode_sh lwA42 (q := 16) (by decide +kernel) 133 ⟨by decide +kernel, by decide +kernel⟩ rfl
theorem dL_law_2705 : decode code 2705 = .ok (.lcmp, 1) := decode_sh lwA42 (q := 17) (by decide +kernel) 148 ⟨by decide +kernel, by decide +kernel⟩ rfl
theorem dL_law_2706 : decode code 2706 = .ok (.ifCond .eq 5, 3) := decode_sh lwA42 (q := 18) (by decide +kernel) 153 ⟨by decide +kernel, by decide +kernel⟩ rfl
theorem dL_law_2709 : decode code 2709 = .ok (.iconst 0, 1) := decode_sh lwA42 (q := 21) (by decide +kernel) 3 ⟨by decide +kernel, by decide +kernel⟩ rfl
theorem dL_law_2710 : decode code 2710 = .ok (.ireturn, 1) := decode_sh lwA42 (q := 22) (by decide +kernel) 172 ⟨by decide +kernel, by decide +kernel⟩ rfl
theorem dL_law_2711 : decode code 2711 = .ok (.goto 1084, 3) := decode_sh lwA42 (q := 23) (by decide +kernel) 167 ⟨by decide +kernel, by decide +kernel⟩ rfl
theorem dL_law_2714 : decode code 2714 = .ok (.aload_n 1, 1) := decode_sh lwA42 (q := 26) (by decide +kernel) 43 ⟨by decide +kernel, by decide +kernel⟩ rfl
theorem dL_law_2715 : decode code 2715 = .ok (.aload_n 0, 1) := decode_sh lwA42 (q := 27) (by decide +kernel) 42 ⟨by decide +kernel, by decide +kernel⟩ rfl
theorem dL_law_2716 : decode code 2716 = .ok (.iload 5, 2) := decode_sh lwA42 (q := 28) (by decide +kernel) 21 ⟨by decide +kernel, by decide +kernel⟩ rfl
theorem dL_law_2718 : decode code 2718 = .ok (.iconst 1, 1) := decode_sh lwA42 (q := 30) (by decide +kernel) 4 ⟨by decide +kernel, by decide +kernel⟩ rfl
theorem dL_law_2719 : decode code 2719 = .ok (.iadd, 1) := decode_sh lwA42 (q := 31) (by decide +kernel) 96 ⟨by decide +kernel, by decide +kernel⟩ rfl
theorem dL_law_2720 : decode code 2720 = .ok (.iaload, 1) := decode_sh lwA42 (q := 32) (by decide +kernel) 46 ⟨by decide +kernel, by decide +kernel⟩ rfl
theorem dL_law_2721 : decode code 2721 = .ok (.aload_n 3, 1) := decode_sh lwA42 (q := 33) (by decide +kernel) 45 ⟨by decide +kernel, by decide +kernel⟩ rfl
theorem dL_law_2722 : decode code 2722 = .ok (.invokestatic 351, 3) := decode_sh lwA42 (q := 34) (by decide +kernel) 184 ⟨by decide +kernel, by decide +kernel⟩ rfl
theorem dL_law_2725 : decode code 2725 = .ok (.istore 6, 2) := decode_sh lwA42 (q := 37) (by decide +kernel) 54 ⟨by decide +kernel, by decide +kernel⟩ rfl
theorem dL_law_2727 : decode code 2727 = .ok (.aload_n 2, 1) := decode_sh lwA42 (q := 39) (by decide +kernel) 44 ⟨by decide +kernel, by decide +kernel⟩ rfl
theorem dL_law_2728 : decode code 2728 = .ok (.aload_n 0, 1) := decode_sh lwA42 (q := 40) (by decide +kernel) 42 ⟨by decide +kernel, by decide +kernel⟩ rfl
theorem dL_law_2729 : decode code 2729 = .ok (.iload 5, 2) := decode_sh lwA42 (q := 41) (by decide +kernel) 21 ⟨by decide +kernel, by decide +kernel⟩ rfl
theorem dL_law_2731 : decode code 2731 = .ok (.iconst 1, 1) := decode_sh lwA42 (q := 43) (by decide +kernel) 4 ⟨by decide +kernel, by decide +kernel⟩ rfl
theorem dL_law_2732 : decode code 2732 = .ok (.iadd, 1) := decode_sh lwA42 (q := 44) (by decide +kernel) 96 ⟨by decide +kernel, by decide +kernel⟩ rfl
theorem dL_law_2733 : decode code 2733 = .ok (.iaload, 1) := decode_sh lwA42 (q := 45) (by decide +kernel) 46 ⟨by decide +kernel, by decide +kernel⟩ rfl
theorem dL_law_2734 : decode code 2734 = .ok (.invokevirtual 353, 3) := decode_sh lwA42 (q := 46) (by decide +kernel) 182 ⟨by decide +kernel, by decide +kernel⟩ rfl
theorem dL_law_2737 : decode code 2737 = .ok (.istore 7, 2) := decode_sh lwA42 (q := 49) (by decide +kernel) 54 ⟨by decide +kernel, by decide +kernel⟩ rfl
theorem dL_law_2739 : decode code 2739 = .ok (.aload_n 2, 1) := decode_sh lwA42 (q := 51) (by decide +kernel) 44 ⟨by decide +kernel, by decide +kernel⟩ rfl
theorem dL_law_2740 : decode code 2740 = .ok (.invokevirtual 213, 3) := decode_sh lwA42 (q := 52) (by decide +kernel) 182 ⟨by decide +kernel, by decide +kernel⟩ rfl
theorem dL_law_2743 : decode code 2743 = .ok (.iload 6, 2) := decode_sh lwA42 (q := 55) (by decide +kernel) 21 ⟨by decide +kernel, by decide +kernel⟩ rfl
theorem dL_law_2745 : decode code 2745 = .ok (.if_icmp .eq 5, 3) := decode_sh lwA42 (q := 57) (by decide +kernel) 159 ⟨by decide +kernel, by decide +kernel⟩ rfl
theorem dL_law_2748 : decode code 2748 = .ok (.iconst 0, 1) := decode_sh lwA42 (q := 60) (by decide +kernel) 3 ⟨by decide +kernel, by decide +kernel⟩ rfl
theorem dL_law_2749 : decode code 2749 = .ok (.ireturn, 1) := decode_sh lwA42 (q := 61) (by decide +kernel) 172 ⟨by decide +kernel, by decide +kernel⟩ rfl
theorem dL_law_2750 : decode code 2750 = .ok (.iload 6, 2) := decode_sh lwA42 (q := 62) (by decide +kernel) 21 ⟨by decide +kernel, by decide +kernel⟩ rfl
theorem dL_law_2752 : decode code 2752 = .ok (.ifCond .ne 15, 3) := decode_sh lwA43 (q := 0) (by decide +kernel) 154 ⟨by decide +kernel, by decide +kernel⟩ rfl
theorem dL_law_2755 : decode code 2755 = .ok (.aload_n 3, 1) := decode_sh lwA43 (q := 3) (by decide +kernel) 45 ⟨by decide +kernel, by decide +kernel⟩ rfl
theorem dL_law_2756 : decode code 2756 = .ok (.iconst 0, 1) := decode_sh lwA43 (q := 4) (by decide +kernel) 3 ⟨by decide +kernel, by decide +kernel⟩ rfl
theorem dL_law_2757 : decode code 2757 = .ok (.laload, 1) := decode_sh lwA43 (q := 5) (by decide +kernel) 47 ⟨by decide +kernel, by decide +kernel⟩ rfl
theorem dL_law_2758 : decode code 2758 = .ok (.iload 7, 2) := decode_sh lwA43 (q := 6) (by decide +kernel) 21 ⟨by decide +kernel, by decide +kernel⟩ rfl
theorem dL_law_2760 : decode code 2760 = .ok (.i2l, 1) := decode_sh lwA43 (q := 8) (by decide +kernel) 133 ⟨by decide +kernel, by decide +kernel⟩ rfl
theorem dL_law_2761 : decode code 2761 = .ok (.lcmp, 1) := decode_sh lwA43 (q := 9) (by decide +kernel) 148 ⟨by decide +kernel, by decide +kernel⟩ rfl
theorem dL_law_2762 : decode code 2762 = .ok (.ifCond .eq 5, 3) := decode_sh lwA43 (q := 10) (by decide +kernel) 153 ⟨by decide +kernel, by decide +kernel⟩ rfl
theorem dL_law_2765 : decode code 2765 = .ok (.iconst 0, 1) := decode_sh lwA43 (q := 13) (by decide +kernel) 3 ⟨by decide +kernel, by decide +kernel⟩ rfl
theorem dL_law_2766 : decode code 2766 = .ok (.ireturn, 1) := decode_sh lwA43 (q := 14) (by decide +kernel) 172 ⟨by decide +kernel, by decide +kernel⟩ rfl
theorem dL_law_2767 : decode code 2767 = .ok (.goto 1028, 3) := decode_sh lwA43 (q := 15) (by decide +kernel) 167 ⟨by decide +kernel, by decide +kernel⟩ rfl
theorem dL_law_2770 : decode code 2770 = .ok (.aload_n 1, 1) := decode_sh lwA43 (q := 18) (by decide +kernel) 43 ⟨by decide +kernel, by decide +kernel⟩ rfl
theorem dL_law_2771 : decode code 2771 = .ok (.aload_n 0, 1) := decode_sh lwA43 (q := 19) (by decide +kernel) 42 ⟨by decide +kernel, by decide +kernel⟩ rfl
theorem dL_law_2772 : decode code 2772 = .ok (.iload 5, 2) := decode_sh lwA43 (q := 20) (by decide +kernel) 21 ⟨by decide +kernel, by decide +kernel⟩ rfl
theorem dL_law_2774 : decode code 2774 = .ok (.iconst 1, 1) := decode_sh lwA43 (q := 22) (by decide +kernel) 4 ⟨by decide +kernel, by decide +kernel⟩ rfl
theorem dL_law_2775 : decode code 2775 = .ok (.iadd, 1) := decode_sh lwA43 (q := 23) (by decide +kernel) 96 ⟨by decide +kernel, by decide +kernel⟩ rfl
theorem dL_law_2776 : decode code 2776 = .ok (.iaload, 1) := decode_sh lwA43 (q := 24) (by decide +kernel) 46 ⟨by decide +kernel, by decide +kernel⟩ rfl
theorem dL_law_2777 : decode code 2777 = .ok (.aload_n 3, 1) := decode_sh lwA43 (q := 25) (by decide +kernel) 45 ⟨by decide +kernel, by decide +kernel⟩ rfl
theorem dL_law_2778 : decode code 2778 = .ok (.invokestatic 354, 3) := decode_sh lwA43 (q := 26) (by decide +kernel) 184 ⟨by decide +kernel, by decide +kernel⟩ rfl
theorem dL_law_2781 : decode code 2781 = .ok (.istore 6, 2) := decode_sh lwA43 (q := 29) (by decide +kernel) 54 ⟨by decide +kernel, by decide +kernel⟩ rfl
theorem dL_law_2783 : decode code 2783 = .ok (.aload_n 2, 1) := decode_sh lwA43 (q := 31) (by decide +kernel) 44 ⟨by decide +kernel, by decide +kernel⟩ rfl
theorem dL_law_2784 : decode code 2784 = .ok (.aload_n 0, 1) := decode_sh lwA43 (q := 32) (by decide +kernel) 42 ⟨by decide +kernel, by decide +kernel⟩ rfl
theorem dL_law_2785 : decode code 2785 = .ok (.iload 5, 2) := decode_sh lwA43 (q := 33) (by decide +kernel) 21 ⟨by decide +kernel, by decide +kernel⟩ rfl
theorem dL_law_2787 : decode code 2787 = .ok (.iconst 1, 1) := decode_sh lwA43 (q := 35) (by decide +kernel) 4 ⟨by decide +kernel, by decide +kernel⟩ rfl
theorem dL_law_2788 : decode code 2788 = .ok (.iadd, 1) := decode_sh lwA43 (q := 36) (by decide +kernel) 96 ⟨by decide +kernel, by decide +kernel⟩ rfl
theorem dL_law_2789 : decode code 2789 = .ok (.iaload, 1) := decode_sh lwA43 (q := 37) (by decide +kernel) 46 ⟨by decide +kernel, by decide +kernel⟩ rfl
theorem dL_law_2790 : decode code 2790 = .ok (.invokevirtual 356, 3) := decode_sh lwA43 (q := 38) (by decide +kernel) 182 ⟨by decide +kernel, by decide +kernel⟩ rfl
theorem dL_law_2793 : decode code 2793 = .ok (.istore 7, 2) := decode_sh lwA43 (q := 41) (by decide +kernel) 54 ⟨by decide +kernel, by decide +kernel⟩ rfl
theorem dL_law_2795 : decode code 2795 = .ok (.aload_n 2, 1) := decode_sh lwA43 (q := 43) (by decide +kernel) 44 ⟨by decide +kernel, by decide +kernel⟩ rfl
theorem dL_law_2796 : decode code 2796 = .ok (.invokevirtual 213, 3) := decode_sh lwA43 (q := 44) (by decide +kernel) 182 ⟨by decide +kernel, by decide +kernel⟩ rfl
theorem dL_law_2799 : decode code 2799 = .ok (.iload 6, 2) := decode_sh lwA43 (q := 47) (by decide +kernel) 21 ⟨by decide +kernel, by decide +kernel⟩ rfl
theorem dL_law_2801 : decode code 2801 = .ok (.if_icmp .eq 5, 3) := decode_sh lwA43 (q := 49) (by decide +kernel) 159 ⟨by decide +kernel, by decide +kernel⟩ rfl
theorem dL_law_2804 : decode code 2804 = .ok (.iconst 0, 1) := decode_sh lwA43 (q := 52) (by decide +kernel) 3 ⟨by decide +kernel, by decide +kernel⟩ rfl
theorem dL_law_2805 : decode code 2805 = .ok (.ireturn, 1) := decode_sh lwA43 (q := 53) (by decide +kernel) 172 ⟨by decide +kernel, by decide +kernel⟩ rfl
theorem dL_law_2806 : decode code 2806 = .ok (.iload 6, 2) := decode_sh lwA43 (q := 54) (by decide +kernel) 21 ⟨by decide +kernel, by decide +kernel⟩ rfl
theorem dL_law_2808 : decode code 2808 = .ok (.ifCond .ne 15, 3) := decode_sh lwA43 (q := 56) (by decide +kernel) 154 ⟨by decide +kernel, by decide +kernel⟩ rfl
theorem dL_law_2811 : decode code 2811 = .ok (.aload_n 3, 1) := decode_sh lwA43 (q := 59) (by decide +kernel) 45 ⟨by decide +kernel, by decide +kernel⟩ rfl
theorem dL_law_2812 : decode code 2812 = .ok (.iconst 0, 1) := decode_sh lwA43 (q := 60) (by decide +kernel) 3 ⟨by decide +kernel, by decide +kernel⟩ rfl
theorem dL_law_2813 : decode code 2813 = .ok (.laload, 1) := decode_sh lwA43 (q := 61) (by decide +kernel) 47 ⟨by decide +kernel, by decide +kernel⟩ rfl
theorem dL_law_2814 : decode code 2814 = .ok (.iload 7, 2) := decode_sh lwA43 (q := 62) (by decide +kernel) 21 ⟨by decide +kernel, by decide +kernel⟩ rfl
theorem dL_law_2816 : decode code 2816 = .ok (.i2l, 1) := decode_sh lwA44 (q := 0) (by decide +kernel) 133 ⟨by decide +kernel, by decide +kernel⟩ rfl
theorem dL_law_2817 : decode code 2817 = .ok (.lcmp, 1) := decode_sh lwA44 (q := 1) (by decide +kernel) 148 ⟨by decide +kernel, by decide +kernel⟩ rfl
theorem dL_law_2818 : decode code 2818 = .ok (.ifCond .eq 5, 3) := decode_sh lwA44 (q := 2) (by decide +kernel) 153 ⟨by decide +kernel, by decide +kernel⟩ rfl
theorem dL_law_2821 : decode code 2821 = .ok (.iconst 0, 1) := decode_sh lwA44 (q := 5) (by decide +kernel) 3 ⟨by decide +kernel, by decide +kernel⟩ rfl
theorem dL_law_2822 : decode code 2822 = .ok (.ireturn, 1) := decode_sh lwA44 (q := 6) (by decide +kernel) 172 ⟨by decide +kernel, by decide +kernel⟩ rfl
theorem dL_law_2823 : decode code 2823 = .ok (.goto 972, 3) := decode_sh lwA44 (q := 7) (by decide +kernel) 167 ⟨by decide +kernel, by decide +kernel⟩ rfl
theorem dL_law_2826 : decode code 2826 = .ok (.aload_n 1, 1) := decode_sh lwA44 (q := 10) (by decide +kernel) 43 ⟨by decide +kernel, by decide +kernel⟩ rfl
theorem dL_law_2827 : decode code 2827 = .ok (.aload_n 0, 1) := decode_sh lwA44 (q := 11) (by decide +kernel) 42 ⟨by decide +kernel, by decide +kernel⟩ rfl
theorem dL_law_2828 : decode code 2828 = .ok (.iload 5, 2) := decode_sh lwA44 (q := 12) (by decide +kernel) 21 ⟨by decide +kernel, by decide +kernel⟩ rfl
theorem dL_law_2830 : decode code 2830 = .ok (.iconst 1, 1) := decode_sh lwA44 (q := 14) (by decide +kernel) 4 ⟨by decide +kernel, by decide +kernel⟩ rfl
theorem dL_law_2831 : decode code 2831 = .ok (.iadd, 1) := decode_sh lwA44 (q := 15) (by decide +kernel) 96 ⟨by decide +kernel, by decide +kernel⟩ rfl
theorem dL_law_2832 : decode code 2832 = .ok (.iaload, 1) := decode_sh lwA44 (q := 16) (by decide +kernel) 46 ⟨by decide +kernel, by decide +kernel⟩ rfl
theorem dL_law_2833 : decode code 2833 = .ok (.aload_n 0, 1) := decode_sh lwA44 (q := 17) (by decide +kernel) 42 ⟨by decide +kernel, by decide +kernel⟩ rfl
theorem dL_law_2834 : decode code 2834 = .ok (.iload 5, 2) := decode_sh lwA44 (q := 18) (by decide +kernel) 21 ⟨by decide +kernel, by decide +kernel⟩ rfl
theorem dL_law_2836 : decode code 2836 = .ok (.iconst 2, 1) := decode_sh lwA44 (q := 20) (by decide +kernel) 5 ⟨by decide +kernel, by decide +kernel⟩ rfl
theorem dL_law_2837 : decode code 2837 = .ok (.iadd, 1) := decode_sh lwA44 (q := 21) (by decide +kernel) 96 ⟨by decide +kernel, by decide +kernel⟩ rfl
theorem dL_law_2838 : decode code 2838 = .ok (.iaload, 1) := decode_sh lwA44 (q := 22) (by decide +kernel) 46 ⟨by decide +kernel, by decide +kernel⟩ rfl
theorem dL_law_2839 : decode code 2839 = .ok (.aload_n 3, 1) := decode_sh lwA44 (q := 23) (by decide +kernel) 45 ⟨by decide +kernel, by decide +kernel⟩ rfl
theorem dL_law_2840 : decode code 2840 = .ok (.invokestatic 357, 3) := decode_sh lwA44 (q := 24) (by decide +kernel) 184 ⟨by decide +kernel, by decide +kernel⟩ rfl
theorem dL_law_2843 : decode code 2843 = .ok (.istore 6, 2) := decode_sh lwA44 (q := 27) (by decide +kernel) 54 ⟨by decide +kernel, by decide +kernel⟩ rfl
theorem dL_law_2845 : decode code 2845 = .ok (.aload_n 2, 1) := decode_sh lwA44 (q := 29) (by decide +kernel) 44 ⟨by decide +kernel, by decide +kernel⟩ rfl
theorem dL_law_2846 : decode code 2846 = .ok (.aload_n 0, 1) := decode_sh lwA44 (q := 30) (by decide +kernel) 42 ⟨by decide +kernel, by decide +kernel⟩ rfl
theorem dL_law_2847 : decode code 2847 = .ok (.iload 5, 2) := decode_sh lwA44 (q := 31) (by decide +kernel) 21 ⟨by decide +kernel, by decide +kernel⟩ rfl
theorem dL_law_2849 : decode code 2849 = .ok (.iconst 1, 1) := decode_sh lwA44 (q := 33) (by decide +kernel) 4 ⟨by decide +kernel, by decide +kernel⟩ rfl
theorem dL_law_2850 : decode code 2850 = .ok (.iadd, 1) := decode_sh lwA44 (q := 34) (by decide +kernel) 96 ⟨by decide +kernel, by decide +kernel⟩ rfl
theorem dL_law_2851 : decode code 2851 = .ok (.iaload, 1) := decode_sh lwA44 (q := 35) (by decide +kernel) 46 ⟨by decide +kernel, by decide +kernel⟩ rfl
theorem dL_law_2852 : decode code 2852 = .ok (.aload_n 0, 1) := decode_sh lwA44 (q := 36) (by decide +kernel) 42 ⟨by decide +kernel, by decide +kernel⟩ rfl
theorem dL_law_2853 : decode code 2853 = .ok (.iload 5, 2) := decode_sh lwA44 (q := 37) (by decide +kernel) 21 ⟨by decide +kernel, by decide +kernel⟩ rfl
theorem dL_law_2855 : decode code 2855 = .ok (.iconst 2, 1) := decode_sh lwA44 (q := 39) (by decide +kernel) 5 ⟨by decide +kernel, by decide +kernel⟩ rfl
theorem dL_law_2856 : decode code 2856 = .ok (.iadd, 1) := decode_sh lwA44 (q := 40) (by decide +kernel) 96 ⟨by decide +kernel, by decide +kernel⟩ rfl
theorem dL_law_2857 : decode code 2857 = .ok (.iaload, 1) := decode_sh lwA44 (q := 41) (by decide +kernel) 46 ⟨by decide +kernel, by decide +kernel⟩ rfl
theorem dL_law_2858 : decode code 2858 = .ok (.invokevirtual 359, 3) := decode_sh lwA44 (q := 42) (by decide +kernel) 182 ⟨by decide +kernel, by decide +kernel⟩ rfl
theorem dL_law_2861 : decode code 2861 = .ok (.istore 7, 2) := decode_sh lwA44 (q := 45) (by decide +kernel) 54 ⟨by decide +kernel, by decide +kernel⟩ rfl
theorem dL_law_2863 : decode code 2863 = .ok (.aload_n 2, 1) := decode_sh lwA44 (q := 47) (by decide +kernel) 44 ⟨by decide +kernel, by decide +kernel⟩ rfl
theorem dL_law_2864 : decode code 2864 = .ok (.invokevirtual 213, 3) := decode_sh lwA44 (q := 48) (by decide +kernel) 182 ⟨by decide +kernel, by decide +kernel⟩ rfl
theorem dL_law_2867 : decode code 2867 = .ok (.iload 6, 2) := decode_sh lwA44 (q := 51) (by decide +kernel) 21 ⟨by decide +kernel, by decide +kernel⟩ rfl
theorem dL_law_2869 : decode code 2869 = .ok (.if_icmp .eq 5, 3) := decode_sh lwA44 (q := 53) (by decide +kernel) 159 ⟨by decide +kernel, by decide +kernel⟩ rfl
theorem dL_law_2872 : decode code 2872 = .ok (.iconst 0, 1) := decode_sh lwA44 (q := 56) (by decide +kernel) 3 ⟨by decide +kernel, by decide +kernel⟩ rfl
theorem dL_law_2873 : decode code 2873 = .ok (.ireturn, 1) := decode_sh lwA44 (q := 57) (by decide +kernel) 172 ⟨by decide +kernel, by decide +kernel⟩ rfl
theorem dL_law_2874 : decode code 2874 = .ok (.iload 6, 2) := decode_sh lwA44 (q := 58) (by decide +kernel) 21 ⟨by decide +kernel, by decide +kernel⟩ rfl
theorem dL_law_2876 : decode code 2876 = .ok (.ifCond .ne 15, 3) := decode_sh lwA44 (q := 60) (by decide +kernel) 154 ⟨by decide +kernel, by decide +kernel⟩ rfl
theorem dL_law_2879 : decode code 2879 = .ok (.aload_n 3, 1) := decode_sh lwA44 (q := 63) (by decide +kernel) 45 ⟨by decide +kernel, by decide +kernel⟩ rfl
theorem dL_law_2880 : decode code 2880 = .ok (.iconst 0, 1) := decode_sh lwA45 (q := 0) (by decide +kernel) 3 ⟨by decide +kernel, by decide +kernel⟩ rfl
theorem dL_law_2881 : decode code 2881 = .ok (.laload, 1) := decode_sh lwA45 (q := 1) (by decide +kernel) 47 ⟨by decide +kernel, by decide +kernel⟩ rfl
theorem dL_law_2882 : decode code 2882 = .ok (.iload 7, 2) := decode_sh lwA45 (q := 2) (by decide +kernel) 21 ⟨by decide +kernel, by decide +kernel⟩ rfl
theorem dL_law_2884 : decode code 2884 = .ok (.i2l, 1) := decode_sh lwA45 (q := 4) (by decide +kernel) 133 ⟨by decide +kernel, by decide +kernel⟩ rfl
theorem dL_law_2885 : decode code 2885 = .ok (.lcmp, 1) := decode_sh lwA45 (q := 5) (by decide +kernel) 148 ⟨by decide +kernel, by decide +kernel⟩ rfl
theorem dL_law_2886 : decode code 2886 = .ok (.ifCond .eq 5, 3) := decode_sh lwA45 (q := 6) (by decide +kernel) 153 ⟨by decide +kernel, by decide +kernel⟩ rfl
theorem dL_law_2889 : decode code 2889 = .ok (.iconst 0, 1) := decode_sh lwA45 (q := 9) (by decide +kernel) 3 ⟨by decide +kernel, by decide +kernel⟩ rfl
theorem dL_law_2890 : decode code 2890 = .ok (.ireturn, 1) := decode_sh lwA45 (q := 10) (by decide +kernel) 172 ⟨by decide +kernel, by decide +kernel⟩ rfl
theorem dL_law_2891 : decode code 2891 = .ok (.goto 904, 3) := decode_sh lwA45 (q := 11) (by decide +kernel) 167 ⟨by decide +kernel, by decide +kernel⟩ rfl
theorem dL_law_2894 : decode code 2894 = .ok (.aload_n 1, 1) := decode_sh lwA45 (q := 14) (by decide +kernel) 43 ⟨by decide +kernel, by decide +kernel⟩ rfl
theorem dL_law_2895 : decode code 2895 = .ok (.aload_n 0, 1) := decode_sh lwA45 (q := 15) (by decide +kernel) 42 ⟨by decide +kernel, by decide +kernel⟩ rfl
theorem dL_law_2896 : decode code 2896 = .ok (.iload 5, 2) := decode_sh lwA45 (q := 16) (by decide +kernel) 21 ⟨by decide +kernel, by decide +kernel⟩ rfl
theorem dL_law_2898 : decode code 2898 = .ok (.iconst 1, 1) := decode_sh lwA45 (q := 18) (by decide +kernel) 4 ⟨by decide +kernel, by decide +kernel⟩ rfl
theorem dL_law_2899 : decode code 2899 = .ok (.iadd, 1) := decode_sh lwA45 (q := 19) (by decide +kernel) 96 ⟨by decide +kernel, by decide +kernel⟩ rfl
theorem dL_law_2900 : decode code 2900 = .ok (.iaload, 1) := decode_sh lwA45 (q := 20) (by decide +kernel) 46 ⟨by decide +kernel, by decide +kernel⟩ rfl
theorem dL_law_2901 : decode code 2901 = .ok (.aload_n 0, 1) := decode_sh lwA45 (q := 21) (by decide +kernel) 42 ⟨by decide +kernel, by decide +kernel⟩ rfl
theorem dL_law_2902 : decode code 2902 = .ok (.iload 5, 2) := decode_sh lwA45 (q := 22) (by decide +kernel) 21 ⟨by decide +kernel, by decide +kernel⟩ rfl
theorem dL_law_2904 : decode code 2904 = .ok (.iconst 2, 1) := decode_sh lwA45 (q := 24) (by decide +kernel) 5 ⟨by decide +kernel, by decide +kernel⟩ rfl
theorem dL_law_2905 : decode code 2905 = .ok (.iadd, 1) := decode_sh lwA45 (q := 25) (by decide +kernel) 96 ⟨by decide +kernel, by decide +kernel⟩ rfl
theorem dL_law_2906 : decode code 2906 = .ok (.iaload, 1) := decode_sh lwA45 (q := 26) (by decide +kernel) 46 ⟨by decide +kernel, by decide +kernel⟩ rfl
theorem dL_law_2907 : decode code 2907 = .ok (.aload_n 3, 1) := decode_sh lwA45 (q := 27) (by decide +kernel) 45 ⟨by decide +kernel, by decide +kernel⟩ rfl
theorem dL_law_2908 : decode code 2908 = .ok (.invokestatic 360, 3) := decode_sh lwA45 (q := 28) (by decide +kernel) 184 ⟨by decide +kernel, by decide +kernel⟩ rfl
theorem dL_law_2911 : decode code 2911 = .ok (.istore 6, 2) := decode_sh lwA45 (q := 31) (by decide +kernel) 54 ⟨by decide +kernel, by decide +kernel⟩ rfl
theorem dL_law_2913 : decode code 2913 = .ok (.aload_n 2, 1) := decode_sh lwA45 (q := 33) (by decide +kernel) 44 ⟨by decide +kernel, by decide +kernel⟩ rfl
theorem dL_law_2914 : decode code 2914 = .ok (.aload_n 0, 1) := decode_sh lwA45 (q := 34) (by decide +kernel) 42 ⟨by decide +kernel, by decide +kernel⟩ rfl
theorem dL_law_2915 : decode code 2915 = .ok (.iload 5, 2) := decode_sh lwA45 (q := 35) (by decide +kernel) 21 ⟨by decide +kernel, by decide +kernel⟩ rfl
theorem dL_law_2917 : decode code 2917 = .ok (.iconst 1, 1) := decode_sh lwA45 (q := 37) (by decide +kernel) 4 ⟨by decide +kernel, by decide +kernel⟩ rfl
theorem dL_law_2918 : decode code 2918 = .ok (.iadd, 1) := decode_sh lwA45 (q := 38) (by decide +kernel) 96 ⟨by decide +kernel, by decide +kernel⟩ rfl
theorem dL_law_2919 : decode code 2919 = .ok (.iaload, 1) := decode_sh lwA45 (q := 39) (by decide +kernel) 46 ⟨by decide +kernel, by decide +kernel⟩ rfl
theorem dL_law_2920 : decode code 2920 = .ok (.aload_n 0, 1) := decode_sh lwA45 (q := 40) (by decide +kernel) 42 ⟨by decide +kernel, by decide +kernel⟩ rfl
theorem dL_law_2921 : decode code 2921 = .ok (.iload 5, 2) := decode_sh lwA45 (q := 41) (by decide +kernel) 21 ⟨by decide +kernel, by decide +kernel⟩ rfl
theorem dL_law_2923 : decode code 2923 = .ok (.iconst 2, 1) := decode_sh lwA45 (q := 43) (by decide +kernel) 5 ⟨by decide +kernel, by decide +kernel⟩ rfl
theorem dL_law_2924 : decode code 2924 = .ok (.iadd, 1) := decode_sh lwA45 (q := 44) (by decide +kernel) 96 ⟨by decide +kernel, by decide +kernel⟩ rfl
theorem dL_law_2925 : decode code 2925 = .ok (.iaload, 1) := decode_sh lwA45 (q := 45) (by decide +kernel) 46 ⟨by decide +kernel, by decide +kernel⟩ rfl
theorem dL_law_2926 : decode code 2926 = .ok (.invokevirtual 362, 3) := decode_sh lwA45 (q := 46) (by decide +kernel) 182 ⟨by decide +kernel, by decide +kernel⟩ rfl
theorem dL_law_2929 : decode code 2929 = .ok (.istore 7, 2) := decode_sh lwA45 (q := 49) (by decide +kernel) 54 ⟨by decide +kernel, by decide +kernel⟩ rfl
theorem dL_law_2931 : decode code 2931 = .ok (.aload_n 2, 1) := decode_sh lwA45 (q := 51) (by decide +kernel) 44 ⟨by decide +kernel, by decide +kernel⟩ rfl
theorem dL_law_2932 : decode code 2932 = .ok (.invokevirtual 213, 3) := decode_sh lwA45 (q := 52) (by decide +kernel) 182 ⟨by decide +kernel, by decide +kernel⟩ rfl
theorem dL_law_2935 : decode code 2935 = .ok (.iload 6, 2) := decode_sh lwA45 (q := 55) (by decide +kernel) 21 ⟨by decide +kernel, by decide +kernel⟩ rfl
theorem dL_law_2937 : decode code 2937 = .ok (.if_icmp .eq 5, 3) := decode_sh lwA45 (q := 57) (by decide +kernel) 159 ⟨by decide +kernel, by decide +kernel⟩ rfl
theorem dL_law_2940 : decode code 2940 = .ok (.iconst 0, 1) := decode_sh lwA45 (q := 60) (by decide +kernel) 3 ⟨by decide +kernel, by decide +kernel⟩ rfl
theorem dL_law_2941 : decode code 2941 = .ok (.ireturn, 1) := decode_sh lwA45 (q := 61) (by decide +kernel) 172 ⟨by decide +kernel, by decide +kernel⟩ rfl
theorem dL_law_2942 : decode code 2942 = .ok (.iload 6, 2) := decode_sh lwA45 (q := 62) (by decide +kernel) 21 ⟨by decide +kernel, by decide +kernel⟩ rfl
theorem dL_law_2944 : decode code 2944 = .ok (.ifCond .ne 15, 3) := decode_sh lwA46 (q := 0) (by decide +kernel) 154 ⟨by decide +kernel, by decide +kernel⟩ rfl
theorem dL_law_2947 : decode code 2947 = .ok (.aload_n 3, 1) := decode_sh lwA46 (q := 3) (by decide +kernel) 45 ⟨by decide +kernel, by decide +kernel⟩ rfl
theorem dL_law_2948 : decode code 2948 = .ok (.iconst 0, 1) := decode_sh lwA46 (q := 4) (by decide +kernel) 3 ⟨by decide +kernel, by decide +kernel⟩ rfl
theorem dL_law_2949 : decode code 2949 = .ok (.laload, 1) := decode_sh lwA46 (q := 5) (by decide +kernel) 47 ⟨by decide +kernel, by decide +kernel⟩ rfl
theorem dL_law_2950 : decode code 2950 = .ok (.iload 7, 2) := decode_sh lwA46 (q := 6) (by decide +kernel) 21 ⟨by decide +kernel, by decide +kernel⟩ rfl
theorem dL_law_2952 : decode code 2952 = .ok (.i2l, 1) := decode_sh lwA46 (q := 8) (by decide +kernel) 133 ⟨by decide +kernel, by decide +kernel⟩ rfl
theorem dL_law_2953 : decode code 2953 = .ok (.lcmp, 1) := decode_sh lwA46 (q := 9) (by decide +kernel) 148 ⟨by decide +kernel, by decide +kernel⟩ rfl
theorem dL_law_2954 : decode code 2954 = .ok (.ifCond .eq 5, 3) := decode_sh lwA46 (q := 10) (by decide +kernel) 153 ⟨by decide +kernel, by decide +kernel⟩ rfl
theorem dL_law_2957 : decode code 2957 = .ok (.iconst 0, 1) := decode_sh lwA46 (q := 13) (by decide +kernel) 3 ⟨by decide +kernel, by decide +kernel⟩ rfl
theorem dL_law_2958 : decode code 2958 = .ok (.ireturn, 1) := decode_sh lwA46 (q := 14) (by decide +kernel) 172 ⟨by decide +kernel, by decide +kernel⟩ rfl
theorem dL_law_2959 : decode code 2959 = .ok (.goto 836, 3) := decode_sh lwA46 (q := 15) (by decide +kernel) 167 ⟨by decide +kernel, by decide +kernel⟩ rfl
theorem dL_law_2962 : decode code 2962 = .ok (.aload_n 1, 1) := decode_sh lwA46 (q := 18) (by decide +kernel) 43 ⟨by decide +kernel, by decide +kernel⟩ rfl
theorem dL_law_2963 : decode code 2963 = .ok (.aload_n 0, 1) := decode_sh lwA46 (q := 19) (by decide +kernel) 42 ⟨by decide +kernel, by decide +kernel⟩ rfl
theorem dL_law_2964 : decode code 2964 = .ok (.iload 5, 2) := decode_sh lwA46 (q := 20) (by decide +kernel) 21 ⟨by decide +kernel, by decide +kernel⟩ rfl
theorem dL_law_2966 : decode code 2966 = .ok (.iconst 1, 1) := decode_sh lwA46 (q := 22) (by decide +kernel) 4 ⟨by decide +kernel, by decide +kernel⟩ rfl
theorem dL_law_2967 : decode code 2967 = .ok (.iadd, 1) := decode_sh lwA46 (q := 23) (by decide +kernel) 96 ⟨by decide +kernel, by decide +kernel⟩ rfl
theorem dL_law_2968 : decode code 2968 = .ok (.iaload, 1) := decode_sh lwA46 (q := 24) (by decide +kernel) 46 ⟨by decide +kernel, by decide +kernel⟩ rfl
theorem dL_law_2969 : decode code 2969 = .ok (.aload_n 3, 1) := decode_sh lwA46 (q := 25) (by decide +kernel) 45 ⟨by decide +kernel, by decide +kernel⟩ rfl
theorem dL_law_2970 : decode code 2970 = .ok (.invokestatic 363, 3) := decode_sh lwA46 (q := 26) (by decide +kernel) 184 ⟨by decide +kernel, by decide +kernel⟩ rfl
theorem dL_law_2973 : decode code 2973 = .ok (.istore 6, 2) := decode_sh lwA46 (q := 29) (by decide +kernel) 54 ⟨by decide +kernel, by decide +kernel⟩ rfl
theorem dL_law_2975 : decode code 2975 = .ok (.aload_n 2, 1) := decode_sh lwA46 (q := 31) (by decide +kernel) 44 ⟨by decide +kernel, by decide +kernel⟩ rfl
theorem dL_law_2976 : decode code 2976 = .ok (.aload_n 0, 1) := decode_sh lwA46 (q := 32) (by decide +kernel) 42 ⟨by decide +kernel, by decide +kernel⟩ rfl
theorem dL_law_2977 : decode code 2977 = .ok (.iload 5, 2) := decode_sh lwA46 (q := 33) (by decide +kernel) 21 ⟨by decide +kernel, by decide +kernel⟩ rfl
theorem dL_law_2979 : decode code 2979 = .ok (.iconst 1, 1) := decode_sh lwA46 (q := 35) (by decide +kernel) 4 ⟨by decide +kernel, by decide +kernel⟩ rfl
theorem dL_law_2980 : decode code 2980 = .ok (.iadd, 1) := decode_sh lwA46 (q := 36) (by decide +kernel) 96 ⟨by decide +kernel, by decide +kernel⟩ rfl
theorem dL_law_2981 : decode code 2981 = .ok (.iaload, 1) := decode_sh lwA46 (q := 37) (by decide +kernel) 46 ⟨by decide +kernel, by decide +kernel⟩ rfl
theorem dL_law_2982 : decode code 2982 = .ok (.invokevirtual 365, 3) := decode_sh lwA46 (q := 38) (by decide +kernel) 182 ⟨by decide +kernel, by decide +kernel⟩ rfl
theorem dL_law_2985 : decode code 2985 = .ok (.istore 7, 2) := decode_sh lwA46 (q := 41) (by decide +kernel) 54 ⟨by decide +kernel, by decide +kernel⟩ rfl
theorem dL_law_2987 : decode code 2987 = .ok (.aload_n 2, 1) := decode_sh lwA46 (q := 43) (by decide +kernel) 44 ⟨by decide +kernel, by decide +kernel⟩ rfl
theorem dL_law_2988 : decode code 2988 = .ok (.invokevirtual 213, 3) := decode_sh lwA46 (q := 44) (by decide +kernel) 182 ⟨by decide +kernel, by decide +kernel⟩ rfl
theorem dL_law_2991 : decode code 2991 = .ok (.iload 6, 2) := decode_sh lwA46 (q := 47) (by decide +kernel) 21 ⟨by decide +kernel, by decide +kernel⟩ rfl
theorem dL_law_2993 : decode code 2993 = .ok (.if_icmp .eq 5, 3) := decode_sh lwA46 (q := 49) (by decide +kernel) 159 ⟨by decide +kernel, by decide +kernel⟩ rfl
theorem dL_law_2996 : decode code 2996 = .ok (.iconst 0, 1) := decode_sh lwA46 (q := 52) (by decide +kernel) 3 ⟨by decide +kernel, by decide +kernel⟩ rfl
theorem dL_law_2997 : decode code 2997 = .ok (.ireturn, 1) := decode_sh lwA46 (q := 53) (by decide +kernel) 172 ⟨by decide +kernel, by decide +kernel⟩ rfl
theorem dL_law_2998 : decode code 2998 = .ok (.iload 6, 2) := decode_sh lwA46 (q := 54) (by decide +kernel) 21 ⟨by decide +kernel, by decide +kernel⟩ rfl
theorem dL_law_3000 : decode code 3000 = .ok (.ifCond .ne 15, 3) := decode_sh lwA46 (q := 56) (by decide +kernel) 154 ⟨by decide +kernel, by decide +kernel⟩ rfl
theorem dL_law_3003 : decode code 3003 = .ok (.aload_n 3, 1) := decode_sh lwA46 (q := 59) (by decide +kernel) 45 ⟨by decide +kernel, by decide +kernel⟩ rfl
theorem dL_law_3004 : decode code 3004 = .ok (.iconst 0, 1) := decode_sh lwA46 (q := 60) (by decide +kernel) 3 ⟨by decide +kernel, by decide +kernel⟩ rfl
theorem dL_law_3005 : decode code 3005 = .ok (.laload, 1) := decode_sh lwA46 (q := 61) (by decide +kernel) 47 ⟨by decide +kernel, by decide +kernel⟩ rfl
theorem dL_law_3006 : decode code 3006 = .ok (.iload 7, 2) := decode_sh lwA46 (q := 62) (by decide +kernel) 21 ⟨by decide +kernel, by decide +kernel⟩ rfl
theorem dL_law_3008 : decode code 3008 = .ok (.i2l, 1) := decode_sh lwA47 (q := 0) (by decide +kernel) 133 ⟨by decide +kernel, by decide +kernel⟩ rfl
theorem dL_law_3009 : decode code 3009 = .ok (.lcmp, 1) := decode_sh lwA47 (q := 1) (by decide +kernel) 148 ⟨by decide +kernel, by decide +kernel⟩ rfl
theorem dL_law_3010 : decode code 3010 = .ok (.ifCond .eq 5, 3) := decode_sh lwA47 (q := 2) (by decide +kernel) 153 ⟨by decide +kernel, by decide +kernel⟩ rfl
theorem dL_law_3013 : decode code 3013 = .ok (.iconst 0, 1) := decode_sh lwA47 (q := 5) (by decide +kernel) 3 ⟨by decide +kernel, by decide +kernel⟩ rfl
theorem dL_law_3014 : decode code 3014 = .ok (.ireturn, 1) := decode_sh lwA47 (q := 6) (by decide +kernel) 172 ⟨by decide +kernel, by decide +kernel⟩ rfl
theorem dL_law_3015 : decode code 3015 = .ok (.goto 780, 3) := decode_sh lwA47 (q := 7) (by decide +kernel) 167 ⟨by decide +kernel, by decide +kernel⟩ rfl
theorem dL_law_3018 : decode code 3018 = .ok (.aload_n 1, 1) := decode_sh lwA47 (q := 10) (by decide +kernel) 43 ⟨by decide +kernel, by decide +kernel⟩ rfl
theorem dL_law_3019 : decode code 3019 = .ok (.aload_n 0, 1) := decode_sh lwA47 (q := 11) (by decide +kernel) 42 ⟨by decide +kernel, by decide +kernel⟩ rfl
theorem dL_law_3020 : decode code 3020 = .ok (.iload 5, 2) := decode_sh lwA47 (q := 12) (by decide +kernel) 21 ⟨by decide +kernel, by decide +kernel⟩ rfl
theorem dL_law_3022 : decode code 3022 = .ok (.iconst 1, 1) := decode_sh lwA47 (q := 14) (by decide +kernel) 4 ⟨by decide +kernel, by decide +kernel⟩ rfl
theorem dL_law_3023 : decode code 3023 = .ok (.iadd, 1) := decode_sh lwA47 (q := 15) (by decide +kernel) 96 ⟨by decide +kernel, by decide +kernel⟩ rfl
theorem dL_law_3024 : decode code 3024 = .ok (.iaload, 1) := decode_sh lwA47 (q := 16) (by decide +kernel) 46 ⟨by decide +kernel, by decide +kernel⟩ rfl
theorem dL_law_3025 : decode code 3025 = .ok (.aload_n 3, 1) := decode_sh lwA47 (q := 17) (by decide +kernel) 45 ⟨by decide +kernel, by decide +kernel⟩ rfl
theorem dL_law_3026 : decode code 3026 = .ok (.invokestatic 366, 3) := decode_sh lwA47 (q := 18) (by decide +kernel) 184 ⟨by decide +kernel, by decide +kernel⟩ rfl
theorem dL_law_3029 : decode code 3029 = .ok (.istore 6, 2) := decode_sh lwA47 (q := 21) (by decide +kernel) 54 ⟨by decide +kernel, by decide +kernel⟩ rfl
theorem dL_law_3031 : decode code 3031 = .ok (.aload_n 2, 1) := decode_sh lwA47 (q := 23) (by decide +kernel) 44 ⟨by decide +kernel, by decide +kernel⟩ rfl
theorem dL_law_3032 : decode code 3032 = .ok (.aload_n 0, 1) := decode_sh lwA47 (q := 24) (by decide +kernel) 42 ⟨by decide +kernel, by decide +kernel⟩ rfl
theorem dL_law_3033 : decode code 3033 = .ok (.iload 5, 2) := decode_sh lwA47 (q := 25) (by decide +kernel) 21 ⟨by decide +kernel, by decide +kernel⟩ rfl
theorem dL_law_3035 : decode code 3035 = .ok (.iconst 1, 1) := decode_sh lwA47 (q := 27) (by decide +kernel) 4 ⟨by decide +kernel, by decide +kernel⟩ rfl
theorem dL_law_3036 : decode code 3036 = .ok (.iadd, 1) := decode_sh lwA47 (q := 28) (by decide +kernel) 96 ⟨by decide +kernel, by decide +kernel⟩ rfl
theorem dL_law_3037 : decode code 3037 = .ok (.iaload, 1) := decode_sh lwA47 (q := 29) (by decide +kernel) 46 ⟨by decide +kernel, by decide +kernel⟩ rfl
theorem dL_law_3038 : decode code 3038 = .ok (.invokevirtual 368, 3) := decode_sh lwA47 (q := 30) (by decide +kernel) 182 ⟨by decide +kernel, by decide +kernel⟩ rfl
theorem dL_law_3041 : decode code 3041 = .ok (.istore 7, 2) := decode_sh lwA47 (q := 33) (by decide +kernel) 54 ⟨by decide +kernel, by decide +kernel⟩ rfl
theorem dL_law_3043 : decode code 3043 = .ok (.aload_n 2, 1) := decode_sh lwA47 (q := 35) (by decide +kernel) 44 ⟨by decide +kernel, by decide +kernel⟩ rfl
theorem dL_law_3044 : decode code 3044 = .ok (.invokevirtual 213, 3) := decode_sh lwA47 (q := 36) (by decide +kernel) 182 ⟨by decide +kernel, by decide +kernel⟩ rfl
theorem dL_law_3047 : decode code 3047 = .ok (.iload 6, 2) := decode_sh lwA47 (q := 39) (by decide +kernel) 21 ⟨by decide +kernel, by decide +kernel⟩ rfl
theorem dL_law_3049 : decode code 3049 = .ok (.if_icmp .eq 5, 3) := decode_sh lwA47 (q := 41) (by decide +kernel) 159 ⟨by decide +kernel, by decide +kernel⟩ rfl
theorem dL_law_3052 : decode code 3052 = .ok (.iconst 0, 1) := decode_sh lwA47 (q := 44) (by decide +kernel) 3 ⟨by decide +kernel, by decide +kernel⟩ rfl
theorem dL_law_3053 : decode code 3053 = .ok (.ireturn, 1) := decode_sh lwA47 (q := 45) (by decide +kernel) 172 ⟨by decide +kernel, by decide +kernel⟩ rfl
theorem dL_law_3054 : decode code 3054 = .ok (.iload 6, 2) := decode_sh lwA47 (q := 46) (by decide +kernel) 21 ⟨by decide +kernel, by decide +kernel⟩ rfl
theorem dL_law_3056 : decode code 3056 = .ok (.ifCond .ne 15, 3) := decode_sh lwA47 (q := 48) (by decide +kernel) 154 ⟨by decide +kernel, by decide +kernel⟩ rfl
theorem dL_law_3059 : decode code 3059 = .ok (.aload_n 3, 1) := decode_sh lwA47 (q := 51) (by decide +kernel) 45 ⟨by decide +kernel, by decide +kernel⟩ rfl
theorem dL_law_3060 : decode code 3060 = .ok (.iconst 0, 1) := decode_sh lwA47 (q := 52) (by decide +kernel) 3 ⟨by decide +kernel, by decide +kernel⟩ rfl
theorem dL_law_3061 : decode code 3061 = .ok (.laload, 1) := decode_sh lwA47 (q := 53) (by decide +kernel) 47 ⟨by decide +kernel, by decide +kernel⟩ rfl
theorem dL_law_3062 : decode code 3062 = .ok (.iload 7, 2) := decode_sh lwA47 (q := 54) (by decide +kernel) 21 ⟨by decide +kernel, by decide +kernel⟩ rfl
theorem dL_law_3064 : decode code 3064 = .ok (.i2l, 1) := decode_sh lwA47 (q := 56) (by decide +kernel) 133 ⟨by decide +kernel, by decide +kernel⟩ rfl
theorem dL_law_3065 : decode code 3065 = .ok (.lcmp, 1) := decode_sh lwA47 (q := 57) (by decide +kernel) 148 ⟨by decide +kernel, by decide +kernel⟩ rfl
theorem dL_law_3066 : decode code 3066 = .ok (.ifCond .eq 5, 3) := decode_sh lwA47 (q := 58) (by decide +kernel) 153 ⟨by decide +kernel, by decide +kernel⟩ rfl
theorem dL_law_3069 : decode code 3069 = .ok (.iconst 0, 1) := decode_sh lwA47 (q := 61) (by decide +kernel) 3 ⟨by decide +kernel, by decide +kernel⟩ rfl
theorem dL_law_3070 : decode code 3070 = .ok (.ireturn, 1) := decode_sh lwA47 (q := 62) (by decide +kernel) 172 ⟨by decide +kernel, by decide +kernel⟩ rfl
theorem dL_law_3071 : decode code 3071 = .ok (.goto 724, 3) := decode_sh lwA47 (q := 63) (by decide +kernel) 167 ⟨by decide +kernel, by decide +kernel⟩ rfl
theorem dL_law_3074 : decode code 3074 = .ok (.aload_n 1, 1) := decode_sh lwA48 (q := 2) (by decide +kernel) 43 ⟨by decide +kernel, by decide +kernel⟩ rfl
theorem dL_law_3075 : decode code 3075 = .ok (.aload_n 0, 1) := decode_sh lwA48 (q := 3) (by decide +kernel) 42 ⟨by decide +kernel, by decide +kernel⟩ rfl
theorem dL_law_3076 : decode code 3076 = .ok (.iload 5, 2) := decode_sh lwA48 (q := 4) (by decide +kernel) 21 ⟨by decide +kernel, by decide +kernel⟩ rfl
theorem dL_law_3078 : decode code 3078 = .ok (.iconst 1, 1) := decode_sh lwA48 (q := 6) (by decide +kernel) 4 ⟨by decide +kernel, by decide +kernel⟩ rfl
theorem dL_law_3079 : decode code 3079 = .ok (.iadd, 1) := decode_sh lwA48 (q := 7) (by decide +kernel) 96 ⟨by decide +kernel, by decide +kernel⟩ rfl
theorem dL_law_3080 : decode code 3080 = .ok (.iaload, 1) := decode_sh lwA48 (q := 8) (by decide +kernel) 46 ⟨by decide +kernel, by decide +kernel⟩ rfl
theorem dL_law_3081 : decode code 3081 = .ok (.aload_n 3, 1) := decode_sh lwA48 (q := 9) (by decide +kernel) 45 ⟨by decide +kernel, by decide +kernel⟩ rfl
theorem dL_law_3082 : decode code 3082 = .ok (.invokestatic 369, 3) := decode_sh lwA48 (q := 10) (by decide +kernel) 184 ⟨by decide +kernel, by decide +kernel⟩ rfl
theorem dL_law_3085 : decode code 3085 = .ok (.istore 6, 2) := decode_sh lwA48 (q := 13) (by decide +kernel) 54 ⟨by decide +kernel, by decide +kernel⟩ rfl
theorem dL_law_3087 : decode code 3087 = .ok (.aload_n 2, 1) := decode_sh lwA48 (q := 15) (by decide +kernel) 44 ⟨by decide +kernel, by decide +kernel⟩ rfl
theorem dL_law_3088 : decode code 3088 = .ok (.aload_n 0, 1) := decode_sh lwA48 (q := 16) (by decide +kernel) 42 ⟨by decide +kernel, by decide +kernel⟩ rfl
theorem dL_law_3089 : decode code 3089 = .ok (.iload 5, 2) := decode_sh lwA48 (q := 17) (by decide +kernel) 21 ⟨by decide +kernel, by decide +kernel⟩ rfl
theorem dL_law_3091 : decode code 3091 = .ok (.iconst 1, 1) := decode_sh lwA48 (q := 19) (by decide +kernel) 4 ⟨by decide +kernel, by decide +kernel⟩ rfl
theorem dL_law_3092 : decode code 3092 = .ok (.iadd, 1) := decode_sh lwA48 (q := 20) (by decide +kernel) 96 ⟨by decide +kernel, by decide +kernel⟩ rfl
theorem dL_law_3093 : decode code 3093 = .ok (.iaload, 1) := decode_sh lwA48 (q := 21) (by decide +kernel) 46 ⟨by decide +kernel, by decide +kernel⟩ rfl
theorem dL_law_3094 : decode code 3094 = .ok (.invokevirtual 371, 3) := decode_sh lwA48 (q := 22) (by decide +kernel) 182 ⟨by decide +kernel, by decide +kernel⟩ rfl
theorem dL_law_3097 : decode code 3097 = .ok (.istore 7, 2) := decode_sh lwA48 (q := 25) (by decide +kernel) 54 ⟨by decide +kernel, by decide +kernel⟩ rfl
theorem dL_law_3099 : decode code 3099 = .ok (.aload_n 2, 1) := decode_sh lwA48 (q := 27) (by decide +kernel) 44 ⟨by decide +kernel, by decide +kernel⟩ rfl
theorem dL_law_3100 : decode code 3100 = .ok (.invokevirtual 213, 3) := decode_sh lwA48 (q := 28) (by decide +kernel) 182 ⟨by decide +kernel, by decide +kernel⟩ rfl
theorem dL_law_3103 : decode code 3103 = .ok (.iload 6, 2) := decode_sh lwA48 (q := 31) (by decide +kernel) 21 ⟨by decide +kernel, by decide +kernel⟩ rfl
theorem dL_law_3105 : decode code 3105 = .ok (.if_icmp .eq 5, 3) := decode_sh lwA48 (q := 33) (by decide +kernel) 159 ⟨by decide +kernel, by decide +kernel⟩ rfl
theorem dL_law_3108 : decode code 3108 = .ok (.iconst 0, 1) := decode_sh lwA48 (q := 36) (by decide +kernel) 3 ⟨by decide +kernel, by decide +kernel⟩ rfl
theorem dL_law_3109 : decode code 3109 = .ok (.ireturn, 1) := decode_sh lwA48 (q := 37) (by decide +kernel) 172 ⟨by decide +kernel, by decide +kernel⟩ rfl
theorem dL_law_3110 : decode code 3110 = .ok (.iload 6, 2) := decode_sh lwA48 (q := 38) (by decide +kernel) 21 ⟨by decide +kernel, by decide +kernel⟩ rfl
theorem dL_law_3112 : decode code 3112 = .ok (.ifCond .ne 15, 3) := decode_sh lwA48 (q := 40) (by decide +kernel) 154 ⟨by decide +kernel, by decide +kernel⟩ rfl
theorem dL_law_3115 : decode code 3115 = .ok (.aload_n 3, 1) := decode_sh lwA48 (q := 43) (by decide +kernel) 45 ⟨by decide +kernel, by decide +kernel⟩ rfl
theorem dL_law_3116 : decode code 3116 = .ok (.iconst 0, 1) := decode_sh lwA48 (q := 44) (by decide +kernel) 3 ⟨by decide +kernel, by decide +kernel⟩ rfl
theorem dL_law_3117 : decode code 3117 = .ok (.laload, 1) := decode_sh lwA48 (q := 45) (by decide +kernel) 47 ⟨by decide +kernel, by decide +kernel⟩ rfl
theorem dL_law_3118 : decode code 3118 = .ok (.iload 7, 2) := decode_sh lwA48 (q := 46) (by decide +kernel) 21 ⟨by decide +kernel, by decide +kernel⟩ rfl
theorem dL_law_3120 : decode code 3120 = .ok (.i2l, 1) := decode_sh lwA48 (q := 48) (by decide +kernel) 133 ⟨by decide +kernel, by decide +kernel⟩ rfl
theorem dL_law_3121 : decode code 3121 = .ok (.lcmp, 1) := decode_sh lwA48 (q := 49) (by decide +kernel) 148 ⟨by decide +kernel, by decide +kernel⟩ rfl
theorem dL_law_3122 : decode code 3122 = .ok (.ifCond .eq 5, 3) := decode_sh lwA48 (q := 50) (by decide +kernel) 153 ⟨by decide +kernel, by decide +kernel⟩ rfl
theorem dL_law_3125 : decode code 3125 = .ok (.iconst 0, 1) := decode_sh lwA48 (q := 53) (by decide +kernel) 3 ⟨by decide +kernel, by decide +kernel⟩ rfl
theorem dL_law_3126 : decode code 3126 = .ok (.ireturn, 1) := decode_sh lwA48 (q := 54) (by decide +kernel) 172 ⟨by decide +kernel, by decide +kernel⟩ rfl
theorem dL_law_3127 : decode code 3127 = .ok (.goto 668, 3) := decode_sh lwA48 (q := 55) (by decide +kernel) 167 ⟨by decide +kernel, by decide +kernel⟩ rfl
theorem dL_law_3130 : decode code 3130 = .ok (.aload_n 1, 1) := decode_sh lwA48 (q := 58) (by decide +kernel) 43 ⟨by decide +kernel, by decide +kernel⟩ rfl
theorem dL_law_3131 : decode code 3131 = .ok (.aload_n 0, 1) := decode_sh lwA48 (q := 59) (by decide +kernel) 42 ⟨by decide +kernel, by decide +kernel⟩ rfl
theorem dL_law_3132 : decode code 3132 = .ok (.iload 5, 2) := decode_sh lwA48 (q := 60) (by decide +kernel) 21 ⟨by decide +kernel, by decide +kernel⟩ rfl
theorem dL_law_3134 : decode code 3134 = .ok (.iconst 1, 1) := decode_sh lwA48 (q := 62) (by decide +kernel) 4 ⟨by decide +kernel, by decide +kernel⟩ rfl
theorem dL_law_3135 : decode code 3135 = .ok (.iadd, 1) := decode_sh lwA48 (q := 63) (by decide +kernel) 96 ⟨by decide +kernel, by decide +kernel⟩ rfl
theorem dL_law_3136 : decode code 3136 = .ok (.iaload, 1) := decode_sh lwA49 (q := 0) (by decide +kernel) 46 ⟨by decide +kernel, by decide +kernel⟩ rfl
theorem dL_law_3137 : decode code 3137 = .ok (.aload_n 3, 1) := decode_sh lwA49 (q := 1) (by decide +kernel) 45 ⟨by decide +kernel, by decide +kernel⟩ rfl
theorem dL_law_3138 : decode code 3138 = .ok (.invokestatic 372, 3) := decode_sh lwA49 (q := 2) (by decide +kernel) 184 ⟨by decide +kernel, by decide +kernel⟩ rfl
theorem dL_law_3141 : decode code 3141 = .ok (.istore 6, 2) := decode_sh lwA49 (q := 5) (by decide +kernel) 54 ⟨by decide +kernel, by decide +kernel⟩ rfl
theorem dL_law_3143 : decode code 3143 = .ok (.aload_n 2, 1) := decode_sh lwA49 (q := 7) (by decide +kernel) 44 ⟨by decide +kernel, by decide +kernel⟩ rfl
theorem dL_law_3144 : decode code 3144 = .ok (.aload_n 0, 1) := decode_sh lwA49 (q := 8) (by decide +kernel) 42 ⟨by decide +kernel, by decide +kernel⟩ rfl
theorem dL_law_3145 : decode code 3145 = .ok (.iload 5, 2) := decode_sh lwA49 (q := 9) (by decide +kernel) 21 ⟨by decide +kernel, by decide +kernel⟩ rfl
theorem dL_law_3147 : decode code 3147 = .ok (.iconst 1, 1) := decode_sh lwA49 (q := 11) (by decide +kernel) 4 ⟨by decide +kernel, by decide +kernel⟩ rfl
theorem dL_law_3148 : decode code 3148 = .ok (.iadd, 1) := decode_sh lwA49 (q := 12) (by decide +kernel) 96 ⟨by decide +kernel, by decide +kernel⟩ rfl
theorem dL_law_3149 : decode code 3149 = .ok (.iaload, 1) := decode_sh lwA49 (q := 13) (by decide +kernel) 46 ⟨by decide +kernel, by decide +kernel⟩ rfl
theorem dL_law_3150 : decode code 3150 = .ok (.invokevirtual 374, 3) := decode_sh lwA49 (q := 14) (by decide +kernel) 182 ⟨by decide +kernel, by decide +kernel⟩ rfl
theorem dL_law_3153 : decode code 3153 = .ok (.istore 7, 2) := decode_sh lwA49 (q := 17) (by decide +kernel) 54 ⟨by decide +kernel, by decide +kernel⟩ rfl
theorem dL_law_3155 : decode code 3155 = .ok (.aload_n 2, 1) := decode_sh lwA49 (q := 19) (by decide +kernel) 44 ⟨by decide +kernel, by decide +kernel⟩ rfl
theorem dL_law_3156 : decode code 3156 = .ok (.invokevirtual 213, 3) := decode_sh lwA49 (q := 20) (by decide +kernel) 182 ⟨by decide +kernel, by decide +kernel⟩ rfl
theorem dL_law_3159 : decode code 3159 = .ok (.iload 6, 2) := decode_sh lwA49 (q := 23) (by decide +kernel) 21 ⟨by decide +kernel, by decide +kernel⟩ rfl
theorem dL_law_3161 : decode code 3161 = .ok (.if_icmp .eq 5, 3) := decode_sh lwA49 (q := 25) (by decide +kernel) 159 ⟨by decide +kernel, by decide +kernel⟩ rfl
theorem dL_law_3164 : decode code 3164 = .ok (.iconst 0, 1) := decode_sh lwA49 (q := 28) (by decide +kernel) 3 ⟨by decide +kernel, by decide +kernel⟩ rfl
theorem dL_law_3165 : decode code 3165 = .ok (.ireturn, 1) := decode_sh lwA49 (q := 29) (by decide +kernel) 172 ⟨by decide +kernel, by decide +kernel⟩ rfl
theorem dL_law_3166 : decode code 3166 = .ok (.iload 6, 2) := decode_sh lwA49 (q := 30) (by decide +kernel) 21 ⟨by decide +kernel, by decide +kernel⟩ rfl
theorem dL_law_3168 : decode code 3168 = .ok (.ifCond .ne 15, 3) := decode_sh lwA49 (q := 32) (by decide +kernel) 154 ⟨by decide +kernel, by decide +kernel⟩ rfl
theorem dL_law_3171 : decode code 3171 = .ok (.aload_n 3, 1) := decode_sh lwA49 (q := 35) (by decide +kernel) 45 ⟨by decide +kernel, by decide +kernel⟩ rfl
theorem dL_law_3172 : decode code 3172 = .ok (.iconst 0, 1) := decode_sh lwA49 (q := 36) (by decide +kernel) 3 ⟨by decide +kernel, by decide +kernel⟩ rfl
theorem dL_law_3173 : decode code 3173 = .ok (.laload, 1) := decode_sh lwA49 (q := 37) (by decide +kernel) 47 ⟨by decide +kernel, by decide +kernel⟩ rfl
theorem dL_law_3174 : decode code 3174 = .ok (.iload 7, 2) := decode_sh lwA49 (q := 38) (by decide +kernel) 21 ⟨by decide +kernel, by decide +kernel⟩ rfl
theorem dL_law_3176 : decode code 3176 = .ok (.i2l, 1) := decode_sh lwA49 (q := 40) (by decide +kernel) 133 ⟨by decide +kernel, by decide +kernel⟩ rfl
theorem dL_law_3177 : decode code 3177 = .ok (.lcmp, 1) := decode_sh lwA49 (q := 41) (by decide +kernel) 148 ⟨by decide +kernel, by decide +kernel⟩ rfl
theorem dL_law_3178 : decode code 3178 = .ok (.ifCond .eq 5, 3) := decode_sh lwA49 (q := 42) (by decide +kernel) 153 ⟨by decide +kernel, by decide +kernel⟩ rfl
theorem dL_law_3181 : decode code 3181 = .ok (.iconst 0, 1) := decode_sh lwA49 (q := 45) (by decide +kernel) 3 ⟨by decide +kernel, by decide +kernel⟩ rfl
theorem dL_law_3182 : decode code 3182 = .ok (.ireturn, 1) := decode_sh lwA49 (q := 46) (by decide +kernel) 172 ⟨by decide +kernel, by decide +kernel⟩ rfl
theorem dL_law_3183 : decode code 3183 = .ok (.goto 612, 3) := decode_sh lwA49 (q := 47) (by decide +kernel) 167 ⟨by decide +kernel, by decide +kernel⟩ rfl
theorem dL_law_3186 : decode code 3186 = .ok (.aload_n 1, 1) := decode_sh lwA49 (q := 50) (by decide +kernel) 43 ⟨by decide +kernel, by decide +kernel⟩ rfl
theorem dL_law_3187 : decode code 3187 = .ok (.aload_n 0, 1) := decode_sh lwA49 (q := 51) (by decide +kernel) 42 ⟨by decide +kernel, by decide +kernel⟩ rfl
theorem dL_law_3188 : decode code 3188 = .ok (.iload 5, 2) := decode_sh lwA49 (q := 52) (by decide +kernel) 21 ⟨by decide +kernel, by decide +kernel⟩ rfl
theorem dL_law_3190 : decode code 3190 = .ok (.iconst 1, 1) := decode_sh lwA49 (q := 54) (by decide +kernel) 4 ⟨by decide +kernel, by decide +kernel⟩ rfl
theorem dL_law_3191 : decode code 3191 = .ok (.iadd, 1) := decode_sh lwA49 (q := 55) (by decide +kernel) 96 ⟨by decide +kernel, by decide +kernel⟩ rfl
theorem dL_law_3192 : decode code 3192 = .ok (.iaload, 1) := decode_sh lwA49 (q := 56) (by decide +kernel) 46 ⟨by decide +kernel, by decide +kernel⟩ rfl
theorem dL_law_3193 : decode code 3193 = .ok (.aload_n 3, 1) := decode_sh lwA49 (q := 57) (by decide +kernel) 45 ⟨by decide +kernel, by decide +kernel⟩ rfl
theorem dL_law_3194 : decode code 3194 = .ok (.invokestatic 375, 3) := decode_sh lwA49 (q := 58) (by decide +kernel) 184 ⟨by decide +kernel, by decide +kernel⟩ rfl
theorem dL_law_3197 : decode code 3197 = .ok (.istore 6, 2) := decode_sh lwA49 (q := 61) (by decide +kernel) 54 ⟨by decide +kernel, by decide +kernel⟩ rfl
theorem dL_law_3199 : decode code 3199 = .ok (.aload_n 2, 1) := decode_sh lwA49 (q := 63) (by decide +kernel) 44 ⟨by decide +kernel, by decide +kernel⟩ rfl
theorem dL_law_3200 : decode code 3200 = .ok (.aload_n 0, 1) := decode_sh lwA50 (q := 0) (by decide +kernel) 42 ⟨by decide +kernel, by decide +kernel⟩ rfl
theorem dL_law_3201 : decode code 3201 = .ok (.iload 5, 2) := decode_sh lwA50 (q := 1) (by decide +kernel) 21 ⟨by decide +kernel, by decide +kernel⟩ rfl
theorem dL_law_3203 : decode code 3203 = .ok (.iconst 1, 1) := decode_sh lwA50 (q := 3) (by decide +kernel) 4 ⟨by decide +kernel, by decide +kernel⟩ rfl
theorem dL_law_3204 : decode code 3204 = .ok (.iadd, 1) := decode_sh lwA50 (q := 4) (by decide +kernel) 96 ⟨by decide +kernel, by decide +kernel⟩ rfl
theorem dL_law_3205 : decode code 3205 = .ok (.iaload, 1) := decode_sh lwA50 (q := 5) (by decide +kernel) 46 ⟨by decide +kernel, by decide +kernel⟩ rfl
theorem dL_law_3206 : decode code 3206 = .ok (.invokevirtual 377, 3) := decode_sh lwA50 (q := 6) (by decide +kernel) 182 ⟨by decide +kernel, by decide +kernel⟩ rfl
theorem dL_law_3209 : decode code 3209 = .ok (.istore 7, 2) := decode_sh lwA50 (q := 9) (by decide +kernel) 54 ⟨by decide +kernel, by decide +kernel⟩ rfl
theorem dL_law_3211 : decode code 3211 = .ok (.aload_n 2, 1) := decode_sh lwA50 (q := 11) (by decide +kernel) 44 ⟨by decide +kernel, by decide +kernel⟩ rfl
theorem dL_law_3212 : decode code 3212 = .ok (.invokevirtual 213, 3) := decode_sh lwA50 (q := 12) (by decide +kernel) 182 ⟨by decide +kernel, by decide +kernel⟩ rfl
theorem dL_law_3215 : decode code 3215 = .ok (.iload 6, 2) := decode_sh lwA50 (q := 15) (by decide +kernel) 21 ⟨by decide +kernel, by decide +kernel⟩ rfl
theorem dL_law_3217 : decode code 3217 = .ok (.if_icmp .eq 5, 3) := decode_sh lwA50 (q := 17) (by decide +kernel) 159 ⟨by decide +kernel, by decide +kernel⟩ rfl
theorem dL_law_3220 : decode code 3220 = .ok (.iconst 0, 1) := decode_sh lwA50 (q := 20) (by decide +kernel) 3 ⟨by decide +kernel, by decide +kernel⟩ rfl
theorem dL_law_3221 : decode code 3221 = .ok (.ireturn, 1) := decode_sh lwA50 (q := 21) (by decide +kernel) 172 ⟨by decide +kernel, by decide +kernel⟩ rfl
theorem dL_law_3222 : decode code 3222 = .ok (.iload 6, 2) := decode_sh lwA50 (q := 22) (by decide +kernel) 21 ⟨by decide +kernel, by decide +kernel⟩ rfl
theorem dL_law_3224 : decode code 3224 = .ok (.ifCond .ne 15, 3) := decode_sh lwA50 (q := 24) (by decide +kernel) 154 ⟨by decide +kernel, by decide +kernel⟩ rfl
theorem dL_law_3227 : decode code 3227 = .ok (.aload_n 3, 1) := decode_sh lwA50 (q := 27) (by decide +kernel) 45 ⟨by decide +kernel, by decide +kernel⟩ rfl
theorem dL_law_3228 : decode code 3228 = .ok (.iconst 0, 1) := decode_sh lwA50 (q := 28) (by decide +kernel) 3 ⟨by decide +kernel, by decide +kernel⟩ rfl
theorem dL_law_3229 : decode code 3229 = .ok (.laload, 1) := decode_sh lwA50 (q := 29) (by decide +kernel) 47 ⟨by decide +kernel, by decide +kernel⟩ rfl
theorem dL_law_3230 : decode code 3230 = .ok (.iload 7, 2) := decode_sh lwA50 (q := 30) (by decide +kernel) 21 ⟨by decide +kernel, by decide +kernel⟩ rfl
theorem dL_law_3232 : decode code 3232 = .ok (.i2l, 1) := decode_sh lwA50 (q := 32) (by decide +kernel) 133 ⟨by decide +kernel, by decide +kernel⟩ rfl
theorem dL_law_3233 : decode code 3233 = .ok (.lcmp, 1) := decode_sh lwA50 (q := 33) (by decide +kernel) 148 ⟨by decide +kernel, by decide +kernel⟩ rfl
theorem dL_law_3234 : decode code 3234 = .ok (.ifCond .eq 5, 3) := decode_sh lwA50 (q := 34) (by decide +kernel) 153 ⟨by decide +kernel, by decide +kernel⟩ rfl
theorem dL_law_3237 : decode code 3237 = .ok (.iconst 0, 1) := decode_sh lwA50 (q := 37) (by decide +kernel) 3 ⟨by decide +kernel, by decide +kernel⟩ rfl
theorem dL_law_3238 : decode code 3238 = .ok (.ireturn, 1) := decode_sh lwA50 (q := 38) (by decide +kernel) 172 ⟨by decide +kernel, by decide +kernel⟩ rfl
theorem dL_law_3239 : decode code 3239 = .ok (.goto 556, 3) := decode_sh lwA50 (q := 39) (by decide +kernel) 167 ⟨by decide +kernel, by decide +kernel⟩ rfl
theorem dL_law_3242 : decode code 3242 = .ok (.aload_n 1, 1) := decode_sh lwA50 (q := 42) (by decide +kernel) 43 ⟨by decide +kernel, by decide +kernel⟩ rfl
theorem dL_law_3243 : decode code 3243 = .ok (.aload_n 0, 1) := decode_sh lwA50 (q := 43) (by decide +kernel) 42 ⟨by decide +kernel, by decide +kernel⟩ rfl
theorem dL_law_3244 : decode code 3244 = .ok (.iload 5, 2) := decode_sh lwA50 (q := 44) (by decide +kernel) 21 ⟨by decide +kernel, by decide +kernel⟩ rfl
theorem dL_law_3246 : decode code 3246 = .ok (.iconst 1, 1) := decode_sh lwA50 (q := 46) (by decide +kernel) 4 ⟨by decide +kernel, by decide +kernel⟩ rfl
theorem dL_law_3247 : decode code 3247 = .ok (.iadd, 1) := decode_sh lwA50 (q := 47) (by decide +kernel) 96 ⟨by decide +kernel, by decide +kernel⟩ rfl
theorem dL_law_3248 : decode code 3248 = .ok (.iaload, 1) := decode_sh lwA50 (q := 48) (by decide +kernel) 46 ⟨by decide +kernel, by decide +kernel⟩ rfl
theorem dL_law_3249 : decode code 3249 = .ok (.aload_n 0, 1) := decode_sh lwA50 (q := 49) (by decide +kernel) 42 ⟨by decide +kernel, by decide +kernel⟩ rfl
theorem dL_law_3250 : decode code 3250 = .ok (.iload 5, 2) := decode_sh lwA50 (q := 50) (by decide +kernel) 21 ⟨by decide +kernel, by decide +kernel⟩ rfl
theorem dL_law_3252 : decode code 3252 = .ok (.iconst 2, 1) := decode_sh lwA50 (q := 52) (by decide +kernel) 5 ⟨by decide +kernel, by decide +kernel⟩ rfl
theorem dL_law_3253 : decode code 3253 = .ok (.iadd, 1) := decode_sh lwA50 (q := 53) (by decide +kernel) 96 ⟨by decide +kernel, by decide +kernel⟩ rfl
theorem dL_law_3254 : decode code 3254 = .ok (.iaload, 1) := decode_sh lwA50 (q := 54) (by decide +kernel) 46 ⟨by decide +kernel, by decide +kernel⟩ rfl
theorem dL_law_3255 : decode code 3255 = .ok (.aload_n 3, 1) := decode_sh lwA50 (q := 55) (by decide +kernel) 45 ⟨by decide +kernel, by decide +kernel⟩ rfl
theorem dL_law_3256 : decode code 3256 = .ok (.invokestatic 378, 3) := decode_sh lwA50 (q := 56) (by decide +kernel) 184 ⟨by decide +kernel, by decide +kernel⟩ rfl
theorem dL_law_3259 : decode code 3259 = .ok (.istore 6, 2) := decode_sh lwA50 (q := 59) (by decide +kernel) 54 ⟨by decide +kernel, by decide +kernel⟩ rfl
theorem dL_law_3261 : decode code 3261 = .ok (.aload_n 2, 1) := decode_sh lwA50 (q := 61) (by decide +kernel) 44 ⟨by decide +kernel, by decide +kernel⟩ rfl
theorem dL_law_3262 : decode code 3262 = .ok (.aload_n 0, 1) := decode_sh lwA50 (q := 62) (by decide +kernel) 42 ⟨by decide +kernel, by decide +kernel⟩ rfl
theorem dL_law_3263 : decode code 3263 = .ok (.iload 5, 2) := decode_sh lwA50 (q := 63) (by decide +kernel) 21 ⟨by decide +kernel, by decide +kernel⟩ rfl
theorem dL_law_3265 : decode code 3265 = .ok (.iconst 1, 1) := decode_sh lwA51 (q := 1) (by decide +kernel) 4 ⟨by decide +kernel, by decide +kernel⟩ rfl
theorem dL_law_3266 : decode code 3266 = .ok (.iadd, 1) := decode_sh lwA51 (q := 2) (by decide +kernel) 96 ⟨by decide +kernel, by decide +kernel⟩ rfl
theorem dL_law_3267 : decode code 3267 = .ok (.iaload, 1) := decode_sh lwA51 (q := 3) (by decide +kernel) 46 ⟨by decide +kernel, by decide +kernel⟩ rfl
theorem dL_law_3268 : decode code 3268 = .ok (.aload_n 0, 1) := decode_sh lwA51 (q := 4) (by decide +kernel) 42 ⟨by decide +kernel, by decide +kernel⟩ rfl
theorem dL_law_3269 : decode code 3269 = .ok (.iload 5, 2) := decode_sh lwA51 (q := 5) (by decide +kernel) 21 ⟨by decide +kernel, by decide +kernel⟩ rfl
theorem dL_law_3271 : decode code 3271 = .ok (.iconst 2, 1) := decode_sh lwA51 (q := 7) (by decide +kernel) 5 ⟨by decide +kernel, by decide +kernel⟩ rfl
theorem dL_law_3272 : decode code 3272 = .ok (.iadd, 1) := decode_sh lwA51 (q := 8) (by decide +kernel) 96 ⟨by decide +kernel, by decide +kernel⟩ rfl
theorem dL_law_3273 : decode code 3273 = .ok (.iaload, 1) := decode_sh lwA51 (q := 9) (by decide +kernel) 46 ⟨by decide +kernel, by decide +kernel⟩ rfl
theorem dL_law_3274 : decode code 3274 = .ok (.invokevirtual 380, 3) := decode_sh lwA51 (q := 10) (by decide +kernel) 182 ⟨by decide +kernel, by decide +kernel⟩ rfl
theorem dL_law_3277 : decode code 3277 = .ok (.istore 7, 2) := decode_sh lwA51 (q := 13) (by decide +kernel) 54 ⟨by decide +kernel, by decide +kernel⟩ rfl
theorem dL_law_3279 : decode code 3279 = .ok (.aload_n 2, 1) := decode_sh lwA51 (q := 15) (by decide +kernel) 44 ⟨by decide +kernel, by decide +kernel⟩ rfl
theorem dL_law_3280 : decode code 3280 = .ok (.invokevirtual 213, 3) := decode_sh lwA51 (q := 16) (by decide +kernel) 182 ⟨by decide +kernel, by decide +kernel⟩ rfl
theorem dL_law_3283 : decode code 3283 = .ok (.iload 6, 2) := decode_sh lwA51 (q := 19) (by decide +kernel) 21 ⟨by decide +kernel, by decide +kernel⟩ rfl
theorem dL_law_3285 : decode code 3285 = .ok (.if_icmp .eq 5, 3) := decode_sh lwA51 (q := 21) (by decide +kernel) 159 ⟨by decide +kernel, by decide +kernel⟩ rfl
theorem dL_law_3288 : decode code 3288 = .ok (.iconst 0, 1) := decode_sh lwA51 (q := 24) (by decide +kernel) 3 ⟨by decide +kernel, by decide +kernel⟩ rfl
theorem dL_law_3289 : decode code 3289 = .ok (.ireturn, 1) := decode_sh lwA51 (q := 25) (by decide +kernel) 172 ⟨by decide +kernel, by decide +kernel⟩ rfl
theorem dL_law_3290 : decode code 3290 = .ok (.iload 6, 2) := decode_sh lwA51 (q := 26) (by decide +kernel) 21 ⟨by decide +kernel, by decide +kernel⟩ rfl
theorem dL_law_3292 : decode code 3292 = .ok (.ifCond .ne 15, 3) := decode_sh lwA51 (q := 28) (by decide +kernel) 154 ⟨by decide +kernel, by decide +kernel⟩ rfl
theorem dL_law_3295 : decode code 3295 = .ok (.aload_n 3, 1) := decode_sh lwA51 (q := 31) (by decide +kernel) 45 ⟨by decide +kernel, by decide +kernel⟩ rfl
theorem dL_law_3296 : decode code 3296 = .ok (.iconst 0, 1) := decode_sh lwA51 (q := 32) (by decide +kernel) 3 ⟨by decide +kernel, by decide +kernel⟩ rfl
theorem dL_law_3297 : decode code 3297 = .ok (.laload, 1) := decode_sh lwA51 (q := 33) (by decide +kernel) 47 ⟨by decide +kernel, by decide +kernel⟩ rfl
theorem dL_law_3298 : decode code 3298 = .ok (.iload 7, 2) := decode_sh lwA51 (q := 34) (by decide +kernel) 21 ⟨by decide +kernel, by decide +kernel⟩ rfl
theorem dL_law_3300 : decode code 3300 = .ok (.i2l, 1) := decode_sh lwA51 (q := 36) (by decide +kernel) 133 ⟨by decide +kernel, by decide +kernel⟩ rfl
theorem dL_law_3301 : decode code 3301 = .ok (.lcmp, 1) := decode_sh lwA51 (q := 37) (by decide +kernel) 148 ⟨by decide +kernel, by decide +kernel⟩ rfl
theorem dL_law_3302 : decode code 3302 = .ok (.ifCond .eq 5, 3) := decode_sh lwA51 (q := 38) (by decide +kernel) 153 ⟨by decide +kernel, by decide +kernel⟩ rfl
theorem dL_law_3305 : decode code 3305 = .ok (.iconst 0, 1) := decode_sh lwA51 (q := 41) (by decide +kernel) 3 ⟨by decide +kernel, by decide +kernel⟩ rfl
theorem dL_law_3306 : decode code 3306 = .ok (.ireturn, 1) := decode_sh lwA51 (q := 42) (by decide +kernel) 172 ⟨by decide +kernel, by decide +kernel⟩ rfl
theorem dL_law_3307 : decode code 3307 = .ok (.goto 488, 3) := decode_sh lwA51 (q := 43) (by decide +kernel) 167 ⟨by decide +kernel, by decide +kernel⟩ rfl
theorem dL_law_3310 : decode code 3310 = .ok (.aload_n 1, 1) := decode_sh lwA51 (q := 46) (by decide +kernel) 43 ⟨by decide +kernel, by decide +kernel⟩ rfl
theorem dL_law_3311 : decode code 3311 = .ok (.aload_n 0, 1) := decode_sh lwA51 (q := 47) (by decide +kernel) 42 ⟨by decide +kernel, by decide +kernel⟩ rfl
theorem dL_law_3312 : decode code 3312 = .ok (.iload 5, 2) := decode_sh lwA51 (q := 48) (by decide +kernel) 21 ⟨by decide +kernel, by decide +kernel⟩ rfl
theorem dL_law_3314 : decode code 3314 = .ok (.iconst 1, 1) := decode_sh lwA51 (q := 50) (by decide +kernel) 4 ⟨by decide +kernel, by decide +kernel⟩ rfl
theorem dL_law_3315 : decode code 3315 = .ok (.iadd, 1) := decode_sh lwA51 (q := 51) (by decide +kernel) 96 ⟨by decide +kernel, by decide +kernel⟩ rfl
theorem dL_law_3316 : decode code 3316 = .ok (.iaload, 1) := decode_sh lwA51 (q := 52) (by decide +kernel) 46 ⟨by decide +kernel, by decide +kernel⟩ rfl
theorem dL_law_3317 : decode code 3317 = .ok (.aload_n 0, 1) := decode_sh lwA51 (q := 53) (by decide +kernel) 42 ⟨by decide +kernel, by decide +kernel⟩ rfl
theorem dL_law_3318 : decode code 3318 = .ok (.iload 5, 2) := decode_sh lwA51 (q := 54) (by decide +kernel) 21 ⟨by decide +kernel, by decide +kernel⟩ rfl
theorem dL_law_3320 : decode code 3320 = .ok (.iconst 2, 1) := decode_sh lwA51 (q := 56) (by decide +kernel) 5 ⟨by decide +kernel, by decide +kernel⟩ rfl
theorem dL_law_3321 : decode code 3321 = .ok (.iadd, 1) := decode_sh lwA51 (q := 57) (by decide +kernel) 96 ⟨by decide +kernel, by decide +kernel⟩ rfl
theorem dL_law_3322 : decode code 3322 = .ok (.iaload, 1) := decode_sh lwA51 (q := 58) (by decide +kernel) 46 ⟨by decide +kernel, by decide +kernel⟩ rfl
theorem dL_law_3323 : decode code 3323 = .ok (.aload_n 3, 1) := decode_sh lwA51 (q := 59) (by decide +kernel) 45 ⟨by decide +kernel, by decide +kernel⟩ rfl
theorem dL_law_3324 : decode code 3324 = .ok (.invokestatic 381, 3) := decode_sh lwA51 (q := 60) (by decide +kernel) 184 ⟨by decide +kernel, by decide +kernel⟩ rfl
theorem dL_law_3327 : decode code 3327 = .ok (.istore 6, 2) := decode_sh lwA51 (q := 63) (by decide +kernel) 54 ⟨by decide +kernel, by decide +kernel⟩ rfl
theorem dL_law_3329 : decode code 3329 = .ok (.aload_n 2, 1) := decode_sh lwA52 (q := 1) (by decide +kernel) 44 ⟨by decide +kernel, by decide +kernel⟩ rfl
theorem dL_law_3330 : decode code 3330 = .ok (.aload_n 0, 1) := decode_sh lwA52 (q := 2) (by decide +kernel) 42 ⟨by decide +kernel, by decide +kernel⟩ rfl
theorem dL_law_3331 : decode code 3331 = .ok (.iload 5, 2) := decode_sh lwA52 (q := 3) (by decide +kernel) 21 ⟨by decide +kernel, by decide +kernel⟩ rfl
theorem dL_law_3333 : decode code 3333 = .ok (.iconst 1, 1) := decode_sh lwA52 (q := 5) (by decide +kernel) 4 ⟨by decide +kernel, by decide +kernel⟩ rfl
theorem dL_law_3334 : decode code 3334 = .ok (.iadd, 1) := decode_sh lwA52 (q := 6) (by decide +kernel) 96 ⟨by decide +kernel, by decide +kernel⟩ rfl
theorem dL_law_3335 : decode code 3335 = .ok (.iaload, 1) := decode_sh lwA52 (q := 7) (by decide +kernel) 46 ⟨by decide +kernel, by decide +kernel⟩ rfl
theorem dL_law_3336 : decode code 3336 = .ok (.aload_n 0, 1) := decode_sh lwA52 (q := 8) (by decide +kernel) 42 ⟨by decide +kernel, by decide +kernel⟩ rfl
theorem dL_law_3337 : decode code 3337 = .ok (.iload 5, 2) := decode_sh lwA52 (q := 9) (by decide +kernel) 21 ⟨by decide +kernel, by decide +kernel⟩ rfl
theorem dL_law_3339 : decode code 3339 = .ok (.iconst 2, 1) := decode_sh lwA52 (q := 11) (by decide +kernel) 5 ⟨by decide +kernel, by decide +kernel⟩ rfl
theorem dL_law_3340 : decode code 3340 = .ok (.iadd, 1) := decode_sh lwA52 (q := 12) (by decide +kernel) 96 ⟨by decide +kernel, by decide +kernel⟩ rfl
theorem dL_law_3341 : decode code 3341 = .ok (.iaload, 1) := decode_sh lwA52 (q := 13) (by decide +kernel) 46 ⟨by decide +kernel, by decide +kernel⟩ rfl
theorem dL_law_3342 : decode code 3342 = .ok (.invokevirtual 383, 3) := decode_sh lwA52 (q := 14) (by decide +kernel) 182 ⟨by decide +kernel, by decide +kernel⟩ rfl
theorem dL_law_3345 : decode code 3345 = .ok (.istore 7, 2) := decode_sh lwA52 (q := 17) (by decide +kernel) 54 ⟨by decide +kernel, by decide +kernel⟩ rfl
theorem dL_law_3347 : decode code 3347 = .ok (.aload_n 2, 1) := decode_sh lwA52 (q := 19) (by decide +kernel) 44 ⟨by decide +kernel, by decide +kernel⟩ rfl
theorem dL_law_3348 : decode code 3348 = .ok (.invokevirtual 213, 3) := decode_sh lwA52 (q := 20) (by decide +kernel) 182 ⟨by decide +kernel, by decide +kernel⟩ rfl
theorem dL_law_3351 : decode code 3351 = .ok (.iload 6, 2) := decode_sh lwA52 (q := 23) (by decide +kernel) 21 ⟨by decide +kernel, by decide +kernel⟩ rfl
theorem dL_law_3353 : decode code 3353 = .ok (.if_icmp .eq 5, 3) := decode_sh lwA52 (q := 25) (by decide +kernel) 159 ⟨by decide +kernel, by decide +kernel⟩ rfl
theorem dL_law_3356 : decode code 3356 = .ok (.iconst 0, 1) := decode_sh lwA52 (q := 28) (by decide +kernel) 3 ⟨by decide +kernel, by decide +kernel⟩ rfl
theorem dL_law_3357 : decode code 3357 = .ok (.ireturn, 1) := decode_sh lwA52 (q := 29) (by decide +kernel) 172 ⟨by decide +kernel, by decide +kernel⟩ rfl
theorem dL_law_3358 : decode code 3358 = .ok (.iload 6, 2) := decode_sh lwA52 (q := 30) (by decide +kernel) 21 ⟨by decide +kernel, by decide +kernel⟩ rfl
theorem dL_law_3360 : decode code 3360 = .ok (.ifCond .ne 15, 3) := decode_sh lwA52 (q := 32) (by decide +kernel) 154 ⟨by decide +kernel, by decide +kernel⟩ rfl
theorem dL_law_3363 : decode code 3363 = .ok (.aload_n 3, 1) := decode_sh lwA52 (q := 35) (by decide +kernel) 45 ⟨by decide +kernel, by decide +kernel⟩ rfl
theorem dL_law_3364 : decode code 3364 = .ok (.iconst 0, 1) := decode_sh lwA52 (q := 36) (by decide +kernel) 3 ⟨by decide +kernel, by decide +kernel⟩ rfl
theorem dL_law_3365 : decode code 3365 = .ok (.laload, 1) := decode_sh lwA52 (q := 37) (by decide +kernel) 47 ⟨by decide +kernel, by decide +kernel⟩ rfl
theorem dL_law_3366 : decode code 3366 = .ok (.iload 7, 2) := decode_sh lwA52 (q := 38) (by decide +kernel) 21 ⟨by decide +kernel, by decide +kernel⟩ rfl
theorem dL_law_3368 : decode code 3368 = .ok (.i2l, 1) := decode_sh lwA52 (q := 40) (by decide +kernel) 133 ⟨by decide +kernel, by decide +kernel⟩ rfl
theorem dL_law_3369 : decode code 3369 = .ok (.lcmp, 1) := decode_sh lwA52 (q := 41) (by decide +kernel) 148 ⟨by decide +kernel, by decide +kernel⟩ rfl
theorem dL_law_3370 : decode code 3370 = .ok (.ifCond .eq 5, 3) := decode_sh lwA52 (q := 42) (by decide +kernel) 153 ⟨by decide +kernel, by decide +kernel⟩ rfl
theorem dL_law_3373 : decode code 3373 = .ok (.iconst 0, 1) := decode_sh lwA52 (q := 45) (by decide +kernel) 3 ⟨by decide +kernel, by decide +kernel⟩ rfl
theorem dL_law_3374 : decode code 3374 = .ok (.ireturn, 1) := decode_sh lwA52 (q := 46) (by decide +kernel) 172 ⟨by decide +kernel, by decide +kernel⟩ rfl
theorem dL_law_3375 : decode code 3375 = .ok (.goto 420, 3) := decode_sh lwA52 (q := 47) (by decide +kernel) 167 ⟨by decide +kernel, by decide +kernel⟩ rfl
theorem dL_law_3378 : decode code 3378 = .ok (.aload_n 1, 1) := decode_sh lwA52 (q := 50) (by decide +kernel) 43 ⟨by decide +kernel, by decide +kernel⟩ rfl
theorem dL_law_3379 : decode code 3379 = .ok (.aload_n 0, 1) := decode_sh lwA52 (q := 51) (by decide +kernel) 42 ⟨by decide +kernel, by decide +kernel⟩ rfl
theorem dL_law_3380 : decode code 3380 = .ok (.iload 5, 2) := decode_sh lwA52 (q := 52) (by decide +kernel) 21 ⟨by decide +kernel, by decide +kernel⟩ rfl
theorem dL_law_3382 : decode code 3382 = .ok (.iconst 1, 1) := decode_sh lwA52 (q := 54) (by decide +kernel) 4 ⟨by decide +kernel, by decide +kernel⟩ rfl
theorem dL_law_3383 : decode code 3383 = .ok (.iadd, 1) := decode_sh lwA52 (q := 55) (by decide +kernel) 96 ⟨by decide +kernel, by decide +kernel⟩ rfl
theorem dL_law_3384 : decode code 3384 = .ok (.iaload, 1) := decode_sh lwA52 (q := 56) (by decide +kernel) 46 ⟨by decide +kernel, by decide +kernel⟩ rfl
theorem dL_law_3385 : decode code 3385 = .ok (.aload_n 3, 1) := decode_sh lwA52 (q := 57) (by decide +kernel) 45 ⟨by decide +kernel, by decide +kernel⟩ rfl
theorem dL_law_3386 : decode code 3386 = .ok (.invokestatic 384, 3) := decode_sh lwA52 (q := 58) (by decide +kernel) 184 ⟨by decide +kernel, by decide +kernel⟩ rfl
theorem dL_law_3389 : decode code 3389 = .ok (.istore 6, 2) := decode_sh lwA52 (q := 61) (by decide +kernel) 54 ⟨by decide +kernel, by decide +kernel⟩ rfl
theorem dL_law_3391 : decode code 3391 = .ok (.aload_n 2, 1) := decode_sh lwA52 (q := 63) (by decide +kernel) 44 ⟨by decide +kernel, by decide +kernel⟩ rfl
theorem dL_law_3392 : decode code 3392 = .ok (.aload_n 0, 1) := decode_sh lwA53 (q := 0) (by decide +kernel) 42 ⟨by decide +kernel, by decide +kernel⟩ rfl
theorem dL_law_3393 : decode code 3393 = .ok (.iload 5, 2) := decode_sh lwA53 (q := 1) (by decide +kernel) 21 ⟨by decide +kernel, by decide +kernel⟩ rfl
theorem dL_law_3395 : decode code 3395 = .ok (.iconst 1, 1) := decode_sh lwA53 (q := 3) (by decide +kernel) 4 ⟨by decide +kernel, by decide +kernel⟩ rfl
theorem dL_law_3396 : decode code 3396 = .ok (.iadd, 1) := decode_sh lwA53 (q := 4) (by decide +kernel) 96 ⟨by decide +kernel, by decide +kernel⟩ rfl
theorem dL_law_3397 : decode code 3397 = .ok (.iaload, 1) := decode_sh lwA53 (q := 5) (by decide +kernel) 46 ⟨by decide +kernel, by decide +kernel⟩ rfl
theorem dL_law_3398 : decode code 3398 = .ok (.invokevirtual 386, 3) := decode_sh lwA53 (q := 6) (by decide +kernel) 182 ⟨by decide +kernel, by decide +kernel⟩ rfl
theorem dL_law_3401 : decode code 3401 = .ok (.istore 7, 2) := decode_sh lwA53 (q := 9) (by decide +kernel) 54 ⟨by decide +kernel, by decide +kernel⟩ rfl
theorem dL_law_3403 : decode code 3403 = .ok (.aload_n 2, 1) := decode_sh lwA53 (q := 11) (by decide +kernel) 44 ⟨by decide +kernel, by decide +kernel⟩ rfl
theorem dL_law_3404 : decode code 3404 = .ok (.invokevirtual 213, 3) := decode_sh lwA53 (q := 12) (by decide +kernel) 182 ⟨by decide +kernel, by decide +kernel⟩ rfl
theorem dL_law_3407 : decode code 3407 = .ok (.iload 6, 2) := decode_sh lwA53 (q := 15) (by decide +kernel) 21 ⟨by decide +kernel, by decide +kernel⟩ rfl
theorem dL_law_3409 : decode code 3409 = .ok (.if_icmp .eq 5, 3) := decode_sh lwA53 (q := 17) (by decide +kernel) 159 ⟨by decide +kernel, by decide +kernel⟩ rfl
theorem dL_law_3412 : decode code 3412 = .ok (.iconst 0, 1) := decode_sh lwA53 (q := 20) (by decide +kernel) 3 ⟨by decide +kernel, by decide +kernel⟩ rfl
theorem dL_law_3413 : decode code 3413 = .ok (.ireturn, 1) := decode_sh lwA53 (q := 21) (by decide +kernel) 172 ⟨by decide +kernel, by decide +kernel⟩ rfl
theorem dL_law_3414 : decode code 3414 = .ok (.iload 6, 2) := decode_sh lwA53 (q := 22) (by decide +kernel) 21 ⟨by decide +kernel, by decide +kernel⟩ rfl
theorem dL_law_3416 : decode code 3416 = .ok (.ifCond .ne 15, 3) := decode_sh lwA53 (q := 24) (by decide +kernel) 154 ⟨by decide +kernel, by decide +kernel⟩ rfl
theorem dL_law_3419 : decode code 3419 = .ok (.aload_n 3, 1) := decode_sh lwA53 (q := 27) (by decide +kernel) 45 ⟨by decide +kernel, by decide +kernel⟩ rfl
theorem dL_law_3420 : decode code 3420 = .ok (.iconst 0, 1) := decode_sh lwA53 (q := 28) (by decide +kernel) 3 ⟨by decide +kernel, by decide +kernel⟩ rfl
theorem dL_law_3421 : decode code 3421 = .ok (.laload, 1) := decode_sh lwA53 (q := 29) (by decide +kernel) 47 ⟨by decide +kernel, by decide +kernel⟩ rfl
theorem dL_law_3422 : decode code 3422 = .ok (.iload 7, 2) := decode_sh lwA53 (q := 30) (by decide +kernel) 21 ⟨by decide +kernel, by decide +kernel⟩ rfl
theorem dL_law_3424 : decode code 3424 = .ok (.i2l, 1) := decode_sh lwA53 (q := 32) (by decide +kernel) 133 ⟨by decide +kernel, by decide +kernel⟩ rfl
theorem dL_law_3425 : decode code 3425 = .ok (.lcmp, 1) := decode_sh lwA53 (q := 33) (by decide +kernel) 148 ⟨by decide +kernel, by decide +kernel⟩ rfl
theorem dL_law_3426 : decode code 3426 = .ok (.ifCond .eq 5, 3) := decode_sh lwA53 (q := 34) (by decide +kernel) 153 ⟨by decide +kernel, by decide +kernel⟩ rfl
theorem dL_law_3429 : decode code 3429 = .ok (.iconst 0, 1) := decode_sh lwA53 (q := 37) (by decide +kernel) 3 ⟨by decide +kernel, by decide +kernel⟩ rfl
theorem dL_law_3430 : decode code 3430 = .ok (.ireturn, 1) := decode_sh lwA53 (q := 38) (by decide +kernel) 172 ⟨by decide +kernel, by decide +kernel⟩ rfl
theorem dL_law_3431 : decode code 3431 = .ok (.goto 364, 3) := decode_sh lwA53 (q := 39) (by decide +kernel) 167 ⟨by decide +kernel, by decide +kernel⟩ rfl
theorem dL_law_3434 : decode code 3434 = .ok (.aload_n 1, 1) := decode_sh lwA53 (q := 42) (by decide +kernel) 43 ⟨by decide +kernel, by decide +kernel⟩ rfl
theorem dL_law_3435 : decode code 3435 = .ok (.aload_n 0, 1) := decode_sh lwA53 (q := 43) (by decide +kernel) 42 ⟨by decide +kernel, by decide +kernel⟩ rfl
theorem dL_law_3436 : decode code 3436 = .ok (.iload 5, 2) := decode_sh lwA53 (q := 44) (by decide +kernel) 21 ⟨by decide +kernel, by decide +kernel⟩ rfl
theorem dL_law_3438 : decode code 3438 = .ok (.iconst 1, 1) := decode_sh lwA53 (q := 46) (by decide +kernel) 4 ⟨by decide +kernel, by decide +kernel⟩ rfl
theorem dL_law_3439 : decode code 3439 = .ok (.iadd, 1) := decode_sh lwA53 (q := 47) (by decide +kernel) 96 ⟨by decide +kernel, by decide +kernel⟩ rfl
theorem dL_law_3440 : decode code 3440 = .ok (.iaload, 1) := decode_sh lwA53 (q := 48) (by decide +kernel) 46 ⟨by decide +kernel, by decide +kernel⟩ rfl
theorem dL_law_3441 : decode code 3441 = .ok (.aload_n 3, 1) := decode_sh lwA53 (q := 49) (by decide +kernel) 45 ⟨by decide +kernel, by decide +kernel⟩ rfl
theorem dL_law_3442 : decode code 3442 = .ok (.invokestatic 387, 3) := decode_sh lwA53 (q := 50) (by decide +kernel) 184 ⟨by decide +kernel, by decide +kernel⟩ rfl
theorem dL_law_3445 : decode code 3445 = .ok (.istore 6, 2) := decode_sh lwA53 (q := 53) (by decide +kernel) 54 ⟨by decide +kernel, by decide +kernel⟩ rfl
theorem dL_law_3447 : decode code 3447 = .ok (.aload_n 2, 1) := decode_sh lwA53 (q := 55) (by decide +kernel) 44 ⟨by decide +kernel, by decide +kernel⟩ rfl
theorem dL_law_3448 : decode code 3448 = .ok (.aload_n 0, 1) := decode_sh lwA53 (q := 56) (by decide +kernel) 42 ⟨by decide +kernel, by decide +kernel⟩ rfl
theorem dL_law_3449 : decode code 3449 = .ok (.iload 5, 2) := decode_sh lwA53 (q := 57) (by decide +kernel) 21 ⟨by decide +kernel, by decide +kernel⟩ rfl
theorem dL_law_3451 : decode code 3451 = .ok (.iconst 1, 1) := decode_sh lwA53 (q := 59) (by decide +kernel) 4 ⟨by decide +kernel, by decide +kernel⟩ rfl
theorem dL_law_3452 : decode code 3452 = .ok (.iadd, 1) := decode_sh lwA53 (q := 60) (by decide +kernel) 96 ⟨by decide +kernel, by decide +kernel⟩ rfl
theorem dL_law_3453 : decode code 3453 = .ok (.iaload, 1) := decode_sh lwA53 (q := 61) (by decide +kernel) 46 ⟨by decide +kernel, by decide +kernel⟩ rfl
theorem dL_law_3454 : decode code 3454 = .ok (.invokevirtual 389, 3) := decode_sh lwA53 (q := 62) (by decide +kernel) 182 ⟨by decide +kernel, by decide +kernel⟩ rfl
theorem dL_law_3457 : decode code 3457 = .ok (.istore 7, 2) := decode_sh lwA54 (q := 1) (by decide +kernel) 54 ⟨by decide +kernel, by decide +kernel⟩ rfl
theorem dL_law_3459 : decode code 3459 = .ok (.aload_n 2, 1) := decode_sh lwA54 (q := 3) (by decide +kernel) 44 ⟨by decide +kernel, by decide +kernel⟩ rfl
theorem dL_law_3460 : decode code 3460 = .ok (.invokevirtual 213, 3) := decode_sh lwA54 (q := 4) (by decide +kernel) 182 ⟨by decide +kernel, by decide +kernel⟩ rfl
theorem dL_law_3463 : decode code 3463 = .ok (.iload 6, 2) := decode_sh lwA54 (q := 7) (by decide +kernel) 21 ⟨by decide +kernel, by decide +kernel⟩ rfl
theorem dL_law_3465 : decode code 3465 = .ok (.if_icmp .eq 5, 3) := decode_sh lwA54 (q := 9) (by decide +kernel) 159 ⟨by decide +kernel, by decide +kernel⟩ rfl
theorem dL_law_3468 : decode code 3468 = .ok (.iconst 0, 1) := decode_sh lwA54 (q := 12) (by decide +kernel) 3 ⟨by decide +kernel, by decide +kernel⟩ rfl
theorem dL_law_3469 : decode code 3469 = .ok (.ireturn, 1) := decode_sh lwA54 (q := 13) (by decide +kernel) 172 ⟨by decide +kernel, by decide +kernel⟩ rfl
theorem dL_law_3470 : decode code 3470 = .ok (.iload 6, 2) := decode_sh lwA54 (q := 14) (by decide +kernel) 21 ⟨by decide +kernel, by decide +kernel⟩ rfl
theorem dL_law_3472 : decode code 3472 = .ok (.ifCond .ne 15, 3) := decode_sh lwA54 (q := 16) (by decide +kernel) 154 ⟨by decide +kernel, by decide +kernel⟩ rfl
theorem dL_law_3475 : decode code 3475 = .ok (.aload_n 3, 1) := decode_sh lwA54 (q := 19) (by decide +kernel) 45 ⟨by decide +kernel, by decide +kernel⟩ rfl
theorem dL_law_3476 : decode code 3476 = .ok (.iconst 0, 1) := decode_sh lwA54 (q := 20) (by decide +kernel) 3 ⟨by decide +kernel, by decide +kernel⟩ rfl
theorem dL_law_3477 : decode code 3477 = .ok (.laload, 1) := decode_sh lwA54 (q := 21) (by decide +kernel) 47 ⟨by decide +kernel, by decide +kernel⟩ rfl
theorem dL_law_3478 : decode code 3478 = .ok (.iload 7, 2) := decode_sh lwA54 (q := 22) (by decide +kernel) 21 ⟨by decide +kernel, by decide +kernel⟩ rfl
theorem dL_law_3480 : decode code 3480 = .ok (.i2l, 1) := decode_sh lwA54 (q := 24) (by decide +kernel) 133 ⟨by decide +kernel, by decide +kernel⟩ rfl
theorem dL_law_3481 : decode code 3481 = .ok (.lcmp, 1) := decode_sh lwA54 (q := 25) (by decide +kernel) 148 ⟨by decide +kernel, by decide +kernel⟩ rfl
theorem dL_law_3482 : decode code 3482 = .ok (.ifCond .eq 5, 3) := decode_sh lwA54 (q := 26) (by decide +kernel) 153 ⟨by decide +kernel, by decide +kernel⟩ rfl
theorem dL_law_3485 : decode code 3485 = .ok (.iconst 0, 1) := decode_sh lwA54 (q := 29) (by decide +kernel) 3 ⟨by decide +kernel, by decide +kernel⟩ rfl
theorem dL_law_3486 : decode code 3486 = .ok (.ireturn, 1) := decode_sh lwA54 (q := 30) (by decide +kernel) 172 ⟨by decide +kernel, by decide +kernel⟩ rfl
theorem dL_law_3487 : decode code 3487 = .ok (.goto 308, 3) := decode_sh lwA54 (q := 31) (by decide +kernel) 167 ⟨by decide +kernel, by decide +kernel⟩ rfl
theorem dL_law_3490 : decode code 3490 = .ok (.aload_n 1, 1) := decode_sh lwA54 (q := 34) (by decide +kernel) 43 ⟨by decide +kernel, by decide +kernel⟩ rfl
theorem dL_law_3491 : decode code 3491 = .ok (.aload_n 0, 1) := decode_sh lwA54 (q := 35) (by decide +kernel) 42 ⟨by decide +kernel, by decide +kernel⟩ rfl
theorem dL_law_3492 : decode code 3492 = .ok (.iload 5, 2) := decode_sh lwA54 (q := 36) (by decide +kernel) 21 ⟨by decide +kernel, by decide +kernel⟩ rfl
theorem dL_law_3494 : decode code 3494 = .ok (.iconst 1, 1) := decode_sh lwA54 (q := 38) (by decide +kernel) 4 ⟨by decide +kernel, by decide +kernel⟩ rfl
theorem dL_law_3495 : decode code 3495 = .ok (.iadd, 1) := decode_sh lwA54 (q := 39) (by decide +kernel) 96 ⟨by decide +kernel, by decide +kernel⟩ rfl
theorem dL_law_3496 : decode code 3496 = .ok (.iaload, 1) := decode_sh lwA54 (q := 40) (by decide +kernel) 46 ⟨by decide +kernel, by decide +kernel⟩ rfl
theorem dL_law_3497 : decode code 3497 = .ok (.aload_n 0, 1) := decode_sh lwA54 (q := 41) (by decide +kernel) 42 ⟨by decide +kernel, by decide +kernel⟩ rfl
theorem dL_law_3498 : decode code 3498 = .ok (.iload 5, 2) := decode_sh lwA54 (q := 42) (by decide +kernel) 21 ⟨by decide +kernel, by decide +kernel⟩ rfl
theorem dL_law_3500 : decode code 3500 = .ok (.iconst 2, 1) := decode_sh lwA54 (q := 44) (by decide +kernel) 5 ⟨by decide +kernel, by decide +kernel⟩ rfl
theorem dL_law_3501 : decode code 3501 = .ok (.iadd, 1) := decode_sh lwA54 (q := 45) (by decide +kernel) 96 ⟨by decide +kernel, by decide +kernel⟩ rfl
theorem dL_law_3502 : decode code 3502 = .ok (.iaload, 1) := decode_sh lwA54 (q := 46) (by decide +kernel) 46 ⟨by decide +kernel, by decide +kernel⟩ rfl
theorem dL_law_3503 : decode code 3503 = .ok (.aload_n 3, 1) := decode_sh lwA54 (q := 47) (by decide +kernel) 45 ⟨by decide +kernel, by decide +kernel⟩ rfl
theorem dL_law_3504 : decode code 3504 = .ok (.invokestatic 390, 3) := decode_sh lwA54 (q := 48) (by decide +kernel) 184 ⟨by decide +kernel, by decide +kernel⟩ rfl
theorem dL_law_3507 : decode code 3507 = .ok (.istore 6, 2) := decode_sh lwA54 (q := 51) (by decide +kernel) 54 ⟨by decide +kernel, by decide +kernel⟩ rfl
theorem dL_law_3509 : decode code 3509 = .ok (.aload_n 2, 1) := decode_sh lwA54 (q := 53) (by decide +kernel) 44 ⟨by decide +kernel, by decide +kernel⟩ rfl
theorem dL_law_3510 : decode code 3510 = .ok (.aload_n 0, 1) := decode_sh lwA54 (q := 54) (by decide +kernel) 42 ⟨by decide +kernel, by decide +kernel⟩ rfl
theorem dL_law_3511 : decode code 3511 = .ok (.iload 5, 2) := decode_sh lwA54 (q := 55) (by decide +kernel) 21 ⟨by decide +kernel, by decide +kernel⟩ rfl
theorem dL_law_3513 : decode code 3513 = .ok (.iconst 1, 1) := decode_sh lwA54 (q := 57) (by decide +kernel) 4 ⟨by decide +kernel, by decide +kernel⟩ rfl
theorem dL_law_3514 : decode code 3514 = .ok (.iadd, 1) := decode_sh lwA54 (q := 58) (by decide +kernel) 96 ⟨by decide +kernel, by decide +kernel⟩ rfl
theorem dL_law_3515 : decode code 3515 = .ok (.iaload, 1) := decode_sh lwA54 (q := 59) (by decide +kernel) 46 ⟨by decide +kernel, by decide +kernel⟩ rfl
theorem dL_law_3516 : decode code 3516 = .ok (.aload_n 0, 1) := decode_sh lwA54 (q := 60) (by decide +kernel) 42 ⟨by decide +kernel, by decide +kernel⟩ rfl
theorem dL_law_3517 : decode code 3517 = .ok (.iload 5, 2) := decode_sh lwA54 (q := 61) (by decide +kernel) 21 ⟨by decide +kernel, by decide +kernel⟩ rfl
theorem dL_law_3519 : decode code 3519 = .ok (.iconst 2, 1) := decode_sh lwA54 (q := 63) (by decide +kernel) 5 ⟨by decide +kernel, by decide +kernel⟩ rfl
theorem dL_law_3520 : decode code 3520 = .ok (.iadd, 1) := decode_sh lwA55 (q := 0) (by decide +kernel) 96 ⟨by decide +kernel, by decide +kernel⟩ rfl
theorem dL_law_3521 : decode code 3521 = .ok (.iaload, 1) := decode_sh lwA55 (q := 1) (by decide +kernel) 46 ⟨by decide +kernel, by decide +kernel⟩ rfl
theorem dL_law_3522 : decode code 3522 = .ok (.invokevirtual 392, 3) := decode_sh lwA55 (q := 2) (by decide +kernel) 182 ⟨by decide +kernel, by decide +kernel⟩ rfl
theorem dL_law_3525 : decode code 3525 = .ok (.istore 7, 2) := decode_sh lwA55 (q := 5) (by decide +kernel) 54 ⟨by decide +kernel, by decide +kernel⟩ rfl
theorem dL_law_3527 : decode code 3527 = .ok (.aload_n 2, 1) := decode_sh lwA55 (q := 7) (by decide +kernel) 44 ⟨by decide +kernel, by decide +kernel⟩ rfl
theorem dL_law_3528 : decode code 3528 = .ok (.invokevirtual 213, 3) := decode_sh lwA55 (q := 8) (by decide +kernel) 182 ⟨by decide +kernel, by decide +kernel⟩ rfl
theorem dL_law_3531 : decode code 3531 = .ok (.iload 6, 2) := decode_sh lwA55 (q := 11) (by decide +kernel) 21 ⟨by decide +kernel, by decide +kernel⟩ rfl
theorem dL_law_3533 : decode code 3533 = .ok (.if_icmp .eq 5, 3) := decode_sh lwA55 (q := 13) (by decide +kernel) 159 ⟨by decide +kernel, by decide +kernel⟩ rfl
theorem dL_law_3536 : decode code 3536 = .ok (.iconst 0, 1) := decode_sh lwA55 (q := 16) (by decide +kernel) 3 ⟨by decide +kernel, by decide +kernel⟩ rfl
theorem dL_law_3537 : decode code 3537 = .ok (.ireturn, 1) := decode_sh lwA55 (q := 17) (by decide +kernel) 172 ⟨by decide +kernel, by decide +kernel⟩ rfl
theorem dL_law_3538 : decode code 3538 = .ok (.iload 6, 2) := decode_sh lwA55 (q := 18) (by decide +kernel) 21 ⟨by decide +kernel, by decide +kernel⟩ rfl
theorem dL_law_3540 : decode code 3540 = .ok (.ifCond .ne 15, 3) := decode_sh lwA55 (q := 20) (by decide +kernel) 154 ⟨by decide +kernel, by decide +kernel⟩ rfl
theorem dL_law_3543 : decode code 3543 = .ok (.aload_n 3, 1) := decode_sh lwA55 (q := 23) (by decide +kernel) 45 ⟨by decide +kernel, by decide +kernel⟩ rfl
theorem dL_law_3544 : decode code 3544 = .ok (.iconst 0, 1) := decode_sh lwA55 (q := 24) (by decide +kernel) 3 ⟨by decide +kernel, by decide +kernel⟩ rfl
theorem dL_law_3545 : decode code 3545 = .ok (.laload, 1) := decode_sh lwA55 (q := 25) (by decide +kernel) 47 ⟨by decide +kernel, by decide +kernel⟩ rfl
theorem dL_law_3546 : decode code 3546 = .ok (.iload 7, 2) := decode_sh lwA55 (q := 26) (by decide +kernel) 21 ⟨by decide +kernel, by decide +kernel⟩ rfl
theorem dL_law_3548 : decode code 3548 = .ok (.i2l, 1) := decode_sh lwA55 (q := 28) (by decide +kernel) 133 ⟨by decide +kernel, by decide +kernel⟩ rfl
theorem dL_law_3549 : decode code 3549 = .ok (.lcmp, 1) := decode_sh lwA55 (q := 29) (by decide +kernel) 148 ⟨by decide +kernel, by decide +kernel⟩ rfl
theorem dL_law_3550 : decode code 3550 = .ok (.ifCond .eq 5, 3) := decode_sh lwA55 (q := 30) (by decide +kernel) 153 ⟨by decide +kernel, by decide +kernel⟩ rfl
theorem dL_law_3553 : decode code 3553 = .ok (.iconst 0, 1) := decode_sh lwA55 (q := 33) (by decide +kernel) 3 ⟨by decide +kernel, by decide +kernel⟩ rfl
theorem dL_law_3554 : decode code 3554 = .ok (.ireturn, 1) := decode_sh lwA55 (q := 34) (by decide +kernel) 172 ⟨by decide +kernel, by decide +kernel⟩ rfl
theorem dL_law_3555 : decode code 3555 = .ok (.goto 240, 3) := decode_sh lwA55 (q := 35) (by decide +kernel) 167 ⟨by decide +kernel, by decide +kernel⟩ rfl
theorem dL_law_3558 : decode code 3558 = .ok (.aload_n 1, 1) := decode_sh lwA55 (q := 38) (by decide +kernel) 43 ⟨by decide +kernel, by decide +kernel⟩ rfl
theorem dL_law_3559 : decode code 3559 = .ok (.aload_n 0, 1) := decode_sh lwA55 (q := 39) (by decide +kernel) 42 ⟨by decide +kernel, by decide +kernel⟩ rfl
theorem dL_law_3560 : decode code 3560 = .ok (.iload 5, 2) := decode_sh lwA55 (q := 40) (by decide +kernel) 21 ⟨by decide +kernel, by decide +kernel⟩ rfl
theorem dL_law_3562 : decode code 3562 = .ok (.iconst 1, 1) := decode_sh lwA55 (q := 42) (by decide +kernel) 4 ⟨by decide +kernel, by decide +kernel⟩ rfl
theorem dL_law_3563 : decode code 3563 = .ok (.iadd, 1) := decode_sh lwA55 (q := 43) (by decide +kernel) 96 ⟨by decide +kernel, by decide +kernel⟩ rfl
theorem dL_law_3564 : decode code 3564 = .ok (.iaload, 1) := decode_sh lwA55 (q := 44) (by decide +kernel) 46 ⟨by decide +kernel, by decide +kernel⟩ rfl
theorem dL_law_3565 : decode code 3565 = .ok (.aload_n 0, 1) := decode_sh lwA55 (q := 45) (by decide +kernel) 42 ⟨by decide +kernel, by decide +kernel⟩ rfl
theorem dL_law_3566 : decode code 3566 = .ok (.iload 5, 2) := decode_sh lwA55 (q := 46) (by decide +kernel) 21 ⟨by decide +kernel, by decide +kernel⟩ rfl
theorem dL_law_3568 : decode code 3568 = .ok (.iconst 2, 1) := decode_sh lwA55 (q := 48) (by decide +kernel) 5 ⟨by decide +kernel, by decide +kernel⟩ rfl
theorem dL_law_3569 : decode code 3569 = .ok (.iadd, 1) := decode_sh lwA55 (q := 49) (by decide +kernel) 96 ⟨by decide +kernel, by decide +kernel⟩ rfl
theorem dL_law_3570 : decode code 3570 = .ok (.iaload, 1) := decode_sh lwA55 (q := 50) (by decide +kernel) 46 ⟨by decide +kernel, by decide +kernel⟩ rfl
theorem dL_law_3571 : decode code 3571 = .ok (.aload_n 3, 1) := decode_sh lwA55 (q := 51) (by decide +kernel) 45 ⟨by decide +kernel, by decide +kernel⟩ rfl
theorem dL_law_3572 : decode code 3572 = .ok (.invokestatic 393, 3) := decode_sh lwA55 (q := 52) (by decide +kernel) 184 ⟨by decide +kernel, by decide +kernel⟩ rfl
theorem dL_law_3575 : decode code 3575 = .ok (.istore 6, 2) := decode_sh lwA55 (q := 55) (by decide +kernel) 54 ⟨by decide +kernel, by decide +kernel⟩ rfl
theorem dL_law_3577 : decode code 3577 = .ok (.aload_n 2, 1) := decode_sh lwA55 (q := 57) (by decide +kernel) 44 ⟨by decide +kernel, by decide +kernel⟩ rfl
theorem dL_law_3578 : decode code 3578 = .ok (.aload_n 0, 1) := decode_sh lwA55 (q := 58) (by decide +kernel) 42 ⟨by decide +kernel, by decide +kernel⟩ rfl
theorem dL_law_3579 : decode code 3579 = .ok (.iload 5, 2) := decode_sh lwA55 (q := 59) (by decide +kernel) 21 ⟨by decide +kernel, by decide +kernel⟩ rfl
theorem dL_law_3581 : decode code 3581 = .ok (.iconst 1, 1) := decode_sh lwA55 (q := 61) (by decide +kernel) 4 ⟨by decide +kernel, by decide +kernel⟩ rfl
theorem dL_law_3582 : decode code 3582 = .ok (.iadd, 1) := decode_sh lwA55 (q := 62) (by decide +kernel) 96 ⟨by decide +kernel, by decide +kernel⟩ rfl
theorem dL_law_3583 : decode code 3583 = .ok (.iaload, 1) := decode_sh lwA55 (q := 63) (by decide +kernel) 46 ⟨by decide +kernel, by decide +kernel⟩ rfl
theorem dL_law_3584 : decode code 3584 = .ok (.aload_n 0, 1) := decode_sh lwA56 (q := 0) (by decide +kernel) 42 ⟨by decide +kernel, by decide +kernel⟩ rfl
theorem dL_law_3585 : decode code 3585 = .ok (.iload 5, 2) := decode_sh lwA56 (q := 1) (by decide +kernel) 21 ⟨by decide +kernel, by decide +kernel⟩ rfl
theorem dL_law_3587 : decode code 3587 = .ok (.iconst 2, 1) := decode_sh lwA56 (q := 3) (by decide +kernel) 5 ⟨by decide +kernel, by decide +kernel⟩ rfl
theorem dL_law_3588 : decode code 3588 = .ok (.iadd, 1) := decode_sh lwA56 (q := 4) (by decide +kernel) 96 ⟨by decide +kernel, by decide +kernel⟩ rfl
theorem dL_law_3589 : decode code 3589 = .ok (.iaload, 1) := decode_sh lwA56 (q := 5) (by decide +kernel) 46 ⟨by decide +kernel, by decide +kernel⟩ rfl
theorem dL_law_3590 : decode code 3590 = .ok (.invokevirtual 395, 3) := decode_sh lwA56 (q := 6) (by decide +kernel) 182 ⟨by decide +kernel, by decide +kernel⟩ rfl
theorem dL_law_3593 : decode code 3593 = .ok (.istore 7, 2) := decode_sh lwA56 (q := 9) (by decide +kernel) 54 ⟨by decide +kernel, by decide +kernel⟩ rfl
theorem dL_law_3595 : decode code 3595 = .ok (.aload_n 2, 1) := decode_sh lwA56 (q := 11) (by decide +kernel) 44 ⟨by decide +kernel, by decide +kernel⟩ rfl
theorem dL_law_3596 : decode code 3596 = .ok (.invokevirtual 213, 3) := decode_sh lwA56 (q := 12) (by decide +kernel) 182 ⟨by decide +kernel, by decide +kernel⟩ rfl
theorem dL_law_3599 : decode code 3599 = .ok (.iload 6, 2) := decode_sh lwA56 (q := 15) (by decide +kernel) 21 ⟨by decide +kernel, by decide +kernel⟩ rfl
theorem dL_law_3601 : decode code 3601 = .ok (.if_icmp .eq 5, 3) := decode_sh lwA56 (q := 17) (by decide +kernel) 159 ⟨by decide +kernel, by decide +kernel⟩ rfl
theorem dL_law_3604 : decode code 3604 = .ok (.iconst 0, 1) := decode_sh lwA56 (q := 20) (by decide +kernel) 3 ⟨by decide +kernel, by decide +kernel⟩ rfl
theorem dL_law_3605 : decode code 3605 = .ok (.ireturn, 1) := decode_sh lwA56 (q := 21) (by decide +kernel) 172 ⟨by decide +kernel, by decide +kernel⟩ rfl
theorem dL_law_3606 : decode code 3606 = .ok (.iload 6, 2) := decode_sh lwA56 (q := 22) (by decide +kernel) 21 ⟨by decide +kernel, by decide +kernel⟩ rfl
theorem dL_law_3608 : decode code 3608 = .ok (.ifCond .ne 15, 3) := decode_sh lwA56 (q := 24) (by decide +kernel) 154 ⟨by decide +kernel, by decide +kernel⟩ rfl
theorem dL_law_3611 : decode code 3611 = .ok (.aload_n 3, 1) := decode_sh lwA56 (q := 27) (by decide +kernel) 45 ⟨by decide +kernel, by decide +kernel⟩ rfl
theorem dL_law_3612 : decode code 3612 = .ok (.iconst 0, 1) := decode_sh lwA56 (q := 28) (by decide +kernel) 3 ⟨by decide +kernel, by decide +kernel⟩ rfl
theorem dL_law_3613 : decode code 3613 = .ok (.laload, 1) := decode_sh lwA56 (q := 29) (by decide +kernel) 47 ⟨by decide +kernel, by decide +kernel⟩ rfl
theorem dL_law_3614 : decode code 3614 = .ok (.iload 7, 2) := decode_sh lwA56 (q := 30) (by decide +kernel) 21 ⟨by decide +kernel, by decide +kernel⟩ rfl
theorem dL_law_3616 : decode code 3616 = .ok (.i2l, 1) := decode_sh lwA56 (q := 32) (by decide +kernel) 133 ⟨by decide +kernel, by decide +kernel⟩ rfl
theorem dL_law_3617 : decode code 3617 = .ok (.lcmp, 1) := decode_sh lwA56 (q := 33) (by decide +kernel) 148 ⟨by decide +kernel, by decide +kernel⟩ rfl
theorem dL_law_3618 : decode code 3618 = .ok (.ifCond .eq 5, 3) := decode_sh lwA56 (q := 34) (by decide +kernel) 153 ⟨by decide +kernel, by decide +kernel⟩ rfl
theorem dL_law_3621 : decode code 3621 = .ok (.iconst 0, 1) := decode_sh lwA56 (q := 37) (by decide +kernel) 3 ⟨by decide +kernel, by decide +kernel⟩ rfl
theorem dL_law_3622 : decode code 3622 = .ok (.ireturn, 1) := decode_sh lwA56 (q := 38) (by decide +kernel) 172 ⟨by decide +kernel, by decide +kernel⟩ rfl
theorem dL_law_3623 : decode code 3623 = .ok (.goto 172, 3) := decode_sh lwA56 (q := 39) (by decide +kernel) 167 ⟨by decide +kernel, by decide +kernel⟩ rfl
theorem dL_law_3626 : decode code 3626 = .ok (.aload_n 1, 1) := decode_sh lwA56 (q := 42) (by decide +kernel) 43 ⟨by decide +kernel, by decide +kernel⟩ rfl
theorem dL_law_3627 : decode code 3627 = .ok (.aload_n 3, 1) := decode_sh lwA56 (q := 43) (by decide +kernel) 45 ⟨by decide +kernel, by decide +kernel⟩ rfl
theorem dL_law_3628 : decode code 3628 = .ok (.invokestatic 396, 3) := decode_sh lwA56 (q := 44) (by decide +kernel) 184 ⟨by decide +kernel, by decide +kernel⟩ rfl
theorem dL_law_3631 : decode code 3631 = .ok (.istore 6, 2) := decode_sh lwA56 (q := 47) (by decide +kernel) 54 ⟨by decide +kernel, by decide +kernel⟩ rfl
theorem dL_law_3633 : decode code 3633 = .ok (.aload_n 2, 1) := decode_sh lwA56 (q := 49) (by decide +kernel) 44 ⟨by decide +kernel, by decide +kernel⟩ rfl
theorem dL_law_3634 : decode code 3634 = .ok (.invokevirtual 398, 3) := decode_sh lwA56 (q := 50) (by decide +kernel) 182 ⟨by decide +kernel, by decide +kernel⟩ rfl
theorem dL_law_3637 : decode code 3637 = .ok (.istore 7, 2) := decode_sh lwA56 (q := 53) (by decide +kernel) 54 ⟨by decide +kernel, by decide +kernel⟩ rfl
theorem dL_law_3639 : decode code 3639 = .ok (.aload_n 2, 1) := decode_sh lwA56 (q := 55) (by decide +kernel) 44 ⟨by decide +kernel, by decide +kernel⟩ rfl
theorem dL_law_3640 : decode code 3640 = .ok (.invokevirtual 213, 3) := decode_sh lwA56 (q := 56) (by decide +kernel) 182 ⟨by decide +kernel, by decide +kernel⟩ rfl
theorem dL_law_3643 : decode code 3643 = .ok (.iload 6, 2) := decode_sh lwA56 (q := 59) (by decide +kernel) 21 ⟨by decide +kernel, by decide +kernel⟩ rfl
theorem dL_law_3645 : decode code 3645 = .ok (.if_icmp .eq 5, 3) := decode_sh lwA56 (q := 61) (by decide +kernel) 159 ⟨by decide +kernel, by decide +kernel⟩ rfl
theorem dL_law_3648 : decode code 3648 = .ok (.iconst 0, 1) := decode_sh lwA57 (q := 0) (by decide +kernel) 3 ⟨by decide +kernel, by decide +kernel⟩ rfl
theorem dL_law_3649 : decode code 3649 = .ok (.ireturn, 1) := decode_sh lwA57 (q := 1) (by decide +kernel) 172 ⟨by decide +kernel, by decide +kernel⟩ rfl
theorem dL_law_3650 : decode code 3650 = .ok (.iload 6, 2) := decode_sh lwA57 (q := 2) (by decide +kernel) 21 ⟨by decide +kernel, by decide +kernel⟩ rfl
theorem dL_law_3652 : decode code 3652 = .ok (.ifCond .ne 15, 3) := decode_sh lwA57 (q := 4) (by decide +kernel) 154 ⟨by decide +kernel, by decide +kernel⟩ rfl
theorem dL_law_3655 : decode code 3655 = .ok (.aload_n 3, 1) := decode_sh lwA57 (q := 7) (by decide +kernel) 45 ⟨by decide +kernel, by decide +kernel⟩ rfl
theorem dL_law_3656 : decode code 3656 = .ok (.iconst 0, 1) := decode_sh lwA57 (q := 8) (by decide +kernel) 3 ⟨by decide +kernel, by decide +kernel⟩ rfl
theorem dL_law_3657 : decode code 3657 = .ok (.laload, 1) := decode_sh lwA57 (q := 9) (by decide +kernel) 47 ⟨by decide +kernel, by decide +kernel⟩ rfl
theorem dL_law_3658 : decode code 3658 = .ok (.iload 7, 2) := decode_sh lwA57 (q := 10) (by decide +kernel) 21 ⟨by decide +kernel, by decide +kernel⟩ rfl
theorem dL_law_3660 : decode code 3660 = .ok (.i2l, 1) := decode_sh lwA57 (q := 12) (by decide +kernel) 133 ⟨by decide +kernel, by decide +kernel⟩ rfl
theorem dL_law_3661 : decode code 3661 = .ok (.lcmp, 1) := decode_sh lwA57 (q := 13) (by decide +kernel) 148 ⟨by decide +kernel, by decide +kernel⟩ rfl
theorem dL_law_3662 : decode code 3662 = .ok (.ifCond .eq 5, 3) := decode_sh lwA57 (q := 14) (by decide +kernel) 153 ⟨by decide +kernel, by decide +kernel⟩ rfl
theorem dL_law_3665 : decode code 3665 = .ok (.iconst 0, 1) := decode_sh lwA57 (q := 17) (by decide +kernel) 3 ⟨by decide +kernel, by decide +kernel⟩ rfl
theorem dL_law_3666 : decode code 3666 = .ok (.ireturn, 1) := decode_sh lwA57 (q := 18) (by decide +kernel) 172 ⟨by decide +kernel, by decide +kernel⟩ rfl
theorem dL_law_3667 : decode code 3667 = .ok (.goto 128, 3) := decode_sh lwA57 (q := 19) (by decide +kernel) 167 ⟨by decide +kernel, by decide +kernel⟩ rfl
theorem dL_law_3670 : decode code 3670 = .ok (.aload_n 1, 1) := decode_sh lwA57 (q := 22) (by decide +kernel) 43 ⟨by decide +kernel, by decide +kernel⟩ rfl
theorem dL_law_3671 : decode code 3671 = .ok (.invokevirtual 399, 3) := decode_sh lwA57 (q := 23) (by decide +kernel) 182 ⟨by decide +kernel, by decide +kernel⟩ rfl
theorem dL_law_3674 : decode code 3674 = .ok (.aload_n 2, 1) := decode_sh lwA57 (q := 26) (by decide +kernel) 44 ⟨by decide +kernel, by decide +kernel⟩ rfl
theorem dL_law_3675 : decode code 3675 = .ok (.invokevirtual 402, 3) := decode_sh lwA57 (q := 27) (by decide +kernel) 182 ⟨by decide +kernel, by decide +kernel⟩ rfl
theorem dL_law_3678 : decode code 3678 = .ok (.if_icmp .eq 117, 3) := decode_sh lwA57 (q := 30) (by decide +kernel) 159 ⟨by decide +kernel, by decide +kernel⟩ rfl
theorem dL_law_3681 : decode code 3681 = .ok (.iconst 0, 1) := decode_sh lwA57 (q := 33) (by decide +kernel) 3 ⟨by decide +kernel, by decide +kernel⟩ rfl
theorem dL_law_3682 : decode code 3682 = .ok (.ireturn, 1) := decode_sh lwA57 (q := 34) (by decide +kernel) 172 ⟨by decide +kernel, by decide +kernel⟩ rfl
theorem dL_law_3683 : decode code 3683 = .ok (.aload_n 1, 1) := decode_sh lwA57 (q := 35) (by decide +kernel) 43 ⟨by decide +kernel, by decide +kernel⟩ rfl
theorem dL_law_3684 : decode code 3684 = .ok (.aload_n 0, 1) := decode_sh lwA57 (q := 36) (by decide +kernel) 42 ⟨by decide +kernel, by decide +kernel⟩ rfl
theorem dL_law_3685 : decode code 3685 = .ok (.iload 5, 2) := decode_sh lwA57 (q := 37) (by decide +kernel) 21 ⟨by decide +kernel, by decide +kernel⟩ rfl
theorem dL_law_3687 : decode code 3687 = .ok (.iconst 1, 1) := decode_sh lwA57 (q := 39) (by decide +kernel) 4 ⟨by decide +kernel, by decide +kernel⟩ rfl
theorem dL_law_3688 : decode code 3688 = .ok (.iadd, 1) := decode_sh lwA57 (q := 40) (by decide +kernel) 96 ⟨by decide +kernel, by decide +kernel⟩ rfl
theorem dL_law_3689 : decode code 3689 = .ok (.iaload, 1) := decode_sh lwA57 (q := 41) (by decide +kernel) 46 ⟨by decide +kernel, by decide +kernel⟩ rfl
theorem dL_law_3690 : decode code 3690 = .ok (.aload_n 3, 1) := decode_sh lwA57 (q := 42) (by decide +kernel) 45 ⟨by decide +kernel, by decide +kernel⟩ rfl
theorem dL_law_3691 : decode code 3691 = .ok (.invokestatic 403, 3) := decode_sh lwA57 (q := 43) (by decide +kernel) 184 ⟨by decide +kernel, by decide +kernel⟩ rfl
theorem dL_law_3694 : decode code 3694 = .ok (.istore 6, 2) := decode_sh lwA57 (q := 46) (by decide +kernel) 54 ⟨by decide +kernel, by decide +kernel⟩ rfl
theorem dL_law_3696 : decode code 3696 = .ok (.aload_n 2, 1) := decode_sh lwA57 (q := 48) (by decide +kernel) 44 ⟨by decide +kernel, by decide +kernel⟩ rfl
theorem dL_law_3697 : decode code 3697 = .ok (.aload_n 0, 1) := decode_sh lwA57 (q := 49) (by decide +kernel) 42 ⟨by decide +kernel, by decide +kernel⟩ rfl
theorem dL_law_3698 : decode code 3698 = .ok (.iload 5, 2) := decode_sh lwA57 (q := 50) (by decide +kernel) 21 ⟨by decide +kernel, by decide +kernel⟩ rfl
theorem dL_law_3700 : decode code 3700 = .ok (.iconst 1, 1) := decode_sh lwA57 (q := 52) (by decide +kernel) 4 ⟨by decide +kernel, by decide +kernel⟩ rfl
theorem dL_law_3701 : decode code 3701 = .ok (.iadd, 1) := decode_sh lwA57 (q := 53) (by decide +kernel) 96 ⟨by decide +kernel, by decide +kernel⟩ rfl
theorem dL_law_3702 : decode code 3702 = .ok (.iaload, 1) := decode_sh lwA57 (q := 54) (by decide +kernel) 46 ⟨by decide +kernel, by decide +kernel⟩ rfl
theorem dL_law_3703 : decode code 3703 = .ok (.invokevirtual 405, 3) := decode_sh lwA57 (q := 55) (by decide +kernel) 182 ⟨by decide +kernel, by decide +kernel⟩ rfl
theorem dL_law_3706 : decode code 3706 = .ok (.istore 7, 2) := decode_sh lwA57 (q := 58) (by decide +kernel) 54 ⟨by decide +kernel, by decide +kernel⟩ rfl
theorem dL_law_3708 : decode code 3708 = .ok (.aload_n 2, 1) := decode_sh lwA57 (q := 60) (by decide +kernel) 44 ⟨by decide +kernel, by decide +kernel⟩ rfl
theorem dL_law_3709 : decode code 3709 = .ok (.invokevirtual 213, 3) := decode_sh lwA57 (q := 61) (by decide +kernel) 182 ⟨by decide +kernel, by decide +kernel⟩ rfl
theorem dL_law_3712 : decode code 3712 = .ok (.iload 6, 2) := decode_sh lwA58 (q := 0) (by decide +kernel) 21 ⟨by decide +kernel, by decide +kernel⟩ rfl
theorem dL_law_3714 : decode code 3714 = .ok (.if_icmp .eq 5, 3) := decode_sh lwA58 (q := 2) (by decide +kernel) 159 ⟨by decide +kernel, by decide +kernel⟩ rfl
theorem dL_law_3717 : decode code 3717 = .ok (.iconst 0, 1) := decode_sh lwA58 (q := 5) (by decide +kernel) 3 ⟨by decide +kernel, by decide +kernel⟩ rfl
theorem dL_law_3718 : decode code 3718 = .ok (.ireturn, 1) := decode_sh lwA58 (q := 6) (by decide +kernel) 172 ⟨by decide +kernel, by decide +kernel⟩ rfl
theorem dL_law_3719 : decode code 3719 = .ok (.iload 6, 2) := decode_sh lwA58 (q := 7) (by decide +kernel) 21 ⟨by decide +kernel, by decide +kernel⟩ rfl
theorem dL_law_3721 : decode code 3721 = .ok (.ifCond .ne 15, 3) := decode_sh lwA58 (q := 9) (by decide +kernel) 154 ⟨by decide +kernel, by decide +kernel⟩ rfl
theorem dL_law_3724 : decode code 3724 = .ok (.aload_n 3, 1) := decode_sh lwA58 (q := 12) (by decide +kernel) 45 ⟨by decide +kernel, by decide +kernel⟩ rfl
theorem dL_law_3725 : decode code 3725 = .ok (.iconst 0, 1) := decode_sh lwA58 (q := 13) (by decide +kernel) 3 ⟨by decide +kernel, by decide +kernel⟩ rfl
theorem dL_law_3726 : decode code 3726 = .ok (.laload, 1) := decode_sh lwA58 (q := 14) (by decide +kernel) 47 ⟨by decide +kernel, by decide +kernel⟩ rfl
theorem dL_law_3727 : decode code 3727 = .ok (.iload 7, 2) := decode_sh lwA58 (q := 15) (by decide +kernel) 21 ⟨by decide +kernel, by decide +kernel⟩ rfl
theorem dL_law_3729 : decode code 3729 = .ok (.i2l, 1) := decode_sh lwA58 (q := 17) (by decide +kernel) 133 ⟨by decide +kernel, by decide +kernel⟩ rfl
theorem dL_law_3730 : decode code 3730 = .ok (.lcmp, 1) := decode_sh lwA58 (q := 18) (by decide +kernel) 148 ⟨by decide +kernel, by decide +kernel⟩ rfl
theorem dL_law_3731 : decode code 3731 = .ok (.ifCond .eq 5, 3) := decode_sh lwA58 (q := 19) (by decide +kernel) 153 ⟨by decide +kernel, by decide +kernel⟩ rfl
theorem dL_law_3734 : decode code 3734 = .ok (.iconst 0, 1) := decode_sh lwA58 (q := 22) (by decide +kernel) 3 ⟨by decide +kernel, by decide +kernel⟩ rfl
theorem dL_law_3735 : decode code 3735 = .ok (.ireturn, 1) := decode_sh lwA58 (q := 23) (by decide +kernel) 172 ⟨by decide +kernel, by decide +kernel⟩ rfl
theorem dL_law_3736 : decode code 3736 = .ok (.goto 59, 3) := decode_sh lwA58 (q := 24) (by decide +kernel) 167 ⟨by decide +kernel, by decide +kernel⟩ rfl
theorem dL_law_3739 : decode code 3739 = .ok (.aload_n 1, 1) := decode_sh lwA58 (q := 27) (by decide +kernel) 43 ⟨by decide +kernel, by decide +kernel⟩ rfl
theorem dL_law_3740 : decode code 3740 = .ok (.aload_n 0, 1) := decode_sh lwA58 (q := 28) (by decide +kernel) 42 ⟨by decide +kernel, by decide +kernel⟩ rfl
theorem dL_law_3741 : decode code 3741 = .ok (.iload 5, 2) := decode_sh lwA58 (q := 29) (by decide +kernel) 21 ⟨by decide +kernel, by decide +kernel⟩ rfl
theorem dL_law_3743 : decode code 3743 = .ok (.iconst 1, 1) := decode_sh lwA58 (q := 31) (by decide +kernel) 4 ⟨by decide +kernel, by decide +kernel⟩ rfl
theorem dL_law_3744 : decode code 3744 = .ok (.iadd, 1) := decode_sh lwA58 (q := 32) (by decide +kernel) 96 ⟨by decide +kernel, by decide +kernel⟩ rfl
theorem dL_law_3745 : decode code 3745 = .ok (.iaload, 1) := decode_sh lwA58 (q := 33) (by decide +kernel) 46 ⟨by decide +kernel, by decide +kernel⟩ rfl
theorem dL_law_3746 : decode code 3746 = .ok (.aload_n 3, 1) := decode_sh lwA58 (q := 34) (by decide +kernel) 45 ⟨by decide +kernel, by decide +kernel⟩ rfl
theorem dL_law_3747 : decode code 3747 = .ok (.invokestatic 406, 3) := decode_sh lwA58 (q := 35) (by decide +kernel) 184 ⟨by decide +kernel, by decide +kernel⟩ rfl
theorem dL_law_3750 : decode code 3750 = .ok (.istore 6, 2) := decode_sh lwA58 (q := 38) (by decide +kernel) 54 ⟨by decide +kernel, by decide +kernel⟩ rfl
theorem dL_law_3752 : decode code 3752 = .ok (.aload_n 2, 1) := decode_sh lwA58 (q := 40) (by decide +kernel) 44 ⟨by decide +kernel, by decide +kernel⟩ rfl
theorem dL_law_3753 : decode code 3753 = .ok (.aload_n 0, 1) := decode_sh lwA58 (q := 41) (by decide +kernel) 42 ⟨by decide +kernel, by decide +kernel⟩ rfl
theorem dL_law_3754 : decode code 3754 = .ok (.iload 5, 2) := decode_sh lwA58 (q := 42) (by decide +kernel) 21 ⟨by decide +kernel, by decide +kernel⟩ rfl
theorem dL_law_3756 : decode code 3756 = .ok (.iconst 1, 1) := decode_sh lwA58 (q := 44) (by decide +kernel) 4 ⟨by decide +kernel, by decide +kernel⟩ rfl
theorem dL_law_3757 : decode code 3757 = .ok (.iadd, 1) := decode_sh lwA58 (q := 45) (by decide +kernel) 96 ⟨by decide +kernel, by decide +kernel⟩ rfl
theorem dL_law_3758 : decode code 3758 = .ok (.iaload, 1) := decode_sh lwA58 (q := 46) (by decide +kernel) 46 ⟨by decide +kernel, by decide +kernel⟩ rfl
theorem dL_law_3759 : decode code 3759 = .ok (.invokevirtual 408, 3) := decode_sh lwA58 (q := 47) (by decide +kernel) 182 ⟨by decide +kernel, by decide +kernel⟩ rfl
theorem dL_law_3762 : decode code 3762 = .ok (.istore 7, 2) := decode_sh lwA58 (q := 50) (by decide +kernel) 54 ⟨by decide +kernel, by decide +kernel⟩ rfl
theorem dL_law_3764 : decode code 3764 = .ok (.aload_n 2, 1) := decode_sh lwA58 (q := 52) (by decide +kernel) 44 ⟨by decide +kernel, by decide +kernel⟩ rfl
theorem dL_law_3765 : decode code 3765 = .ok (.invokevirtual 213, 3) := decode_sh lwA58 (q := 53) (by decide +kernel) 182 ⟨by decide +kernel, by decide +kernel⟩ rfl
theorem dL_law_3768 : decode code 3768 = .ok (.iload 6, 2) := decode_sh lwA58 (q := 56) (by decide +kernel) 21 ⟨by decide +kernel, by decide +kernel⟩ rfl
theorem dL_law_3770 : decode code 3770 = .ok (.if_icmp .eq 5, 3) := decode_sh lwA58 (q := 58) (by decide +kernel) 159 ⟨by decide +kernel, by decide +kernel⟩ rfl
theorem dL_law_3773 : decode code 3773 = .ok (.iconst 0, 1) := decode_sh lwA58 (q := 61) (by decide +kernel) 3 ⟨by decide +kernel, by decide +kernel⟩ rfl
theorem dL_law_3774 : decode code 3774 = .ok (.ireturn, 1) := decode_sh lwA58 (q := 62) (by decide +kernel) 172 ⟨by decide +kernel, by decide +kernel⟩ rfl
theorem dL_law_3775 : decode code 3775 = .ok (.iload 6, 2) := decode_sh lwA58 (q := 63) (by decide +kernel) 21 ⟨by decide +kernel, by decide +kernel⟩ rfl
theorem dL_law_3777 : decode code 3777 = .ok (.ifCond .ne 15, 3) := decode_sh lwA59 (q := 1) (by decide +kernel) 154 ⟨by decide +kernel, by decide +kernel⟩ rfl
theorem dL_law_3780 : decode code 3780 = .ok (.aload_n 3, 1) := decode_sh lwA59 (q := 4) (by decide +kernel) 45 ⟨by decide +kernel, by decide +kernel⟩ rfl
theorem dL_law_3781 : decode code 3781 = .ok (.iconst 0, 1) := decode_sh lwA59 (q := 5) (by decide +kernel) 3 ⟨by decide +kernel, by decide +kernel⟩ rfl
theorem dL_law_3782 : decode code 3782 = .ok (.laload, 1) := decode_sh lwA59 (q := 6) (by decide +kernel) 47 ⟨by decide +kernel, by decide +kernel⟩ rfl
theorem dL_law_3783 : decode code 3783 = .ok (.iload 7, 2) := decode_sh lwA59 (q := 7) (by decide +kernel) 21 ⟨by decide +kernel, by decide +kernel⟩ rfl
theorem dL_law_3785 : decode code 3785 = .ok (.i2l, 1) := decode_sh lwA59 (q := 9) (by decide +kernel) 133 ⟨by decide +kernel, by decide +kernel⟩ rfl
theorem dL_law_3786 : decode code 3786 = .ok (.lcmp, 1) := decode_sh lwA59 (q := 10) (by decide +kernel) 148 ⟨by decide +kernel, by decide +kernel⟩ rfl
theorem dL_law_3787 : decode code 3787 = .ok (.ifCond .eq 5, 3) := decode_sh lwA59 (q := 11) (by decide +kernel) 153 ⟨by decide +kernel, by decide +kernel⟩ rfl
theorem dL_law_3790 : decode code 3790 = .ok (.iconst 0, 1) := decode_sh lwA59 (q := 14) (by decide +kernel) 3 ⟨by decide +kernel, by decide +kernel⟩ rfl
theorem dL_law_3791 : decode code 3791 = .ok (.ireturn, 1) := decode_sh lwA59 (q := 15) (by decide +kernel) 172 ⟨by decide +kernel, by decide +kernel⟩ rfl
theorem dL_law_3792 : decode code 3792 = .ok (.goto 3, 3) := decode_sh lwA59 (q := 16) (by decide +kernel) 167 ⟨by decide +kernel, by decide +kernel⟩ rfl
theorem dL_law_3795 : decode code 3795 = .ok (.iinc 5 6, 3) := decode_sh lwA59 (q := 19) (by decide +kernel) 132 ⟨by decide +kernel, by decide +kernel⟩ rfl
theorem dL_law_3798 : decode code 3798 = .ok (.goto (-3770), 3) := decode_sh lwA59 (q := 22) (by decide +kernel) 167 ⟨by decide +kernel, by decide +kernel⟩ rfl
theorem dL_law_3801 : decode code 3801 = .ok (.iconst 1, 1) := decode_sh lwA59 (q := 25) (by decide +kernel) 4 ⟨by decide +kernel, by decide +kernel⟩ rfl
theorem dL_law_3802 : decode code 3802 = .ok (.ireturn, 1) := decode_sh lwA59 (q := 26) (by decide +kernel) 172 ⟨by decide +kernel, by decide +kernel⟩ rfl
