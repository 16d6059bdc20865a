theorem d_law_613 : decode code 613 = .ok (.aload_n 0, 1) := by decide +kernel
theorem d_law_614 : decode code 614 = .ok (.iload 4, 2) := by decide +kernel
theorem d_law_616 : decode code 616 = .ok (.iconst 1, 1) := by decide +kernel
theorem d_law_617 : decode code 617 = .ok (.iadd, 1) := by decide +kernel
theorem d_law_618 : decode code 618 = .ok (.iaload, 1) := by decide +kernel
theorem d_law_619 : decode code 619 = .ok (.invokevirtual 82, 3) := by decide +kernel
theorem d_law_622 : decode code 622 = .ok (.aload_n 2, 1) := by decide +kernel
theorem d_law_623 : decode code 623 = .ok (.aload_n 0, 1) := by decide +kernel
theorem d_law_624 : decode code 624 = .ok (.iload 4, 2) := by decide +kernel
theorem d_law_626 : decode code 626 = .ok (.iconst 1, 1) := by decide +kernel
theorem d_law_627 : decode code 627 = .ok (.iadd, 1) := by decide +kernel
theorem d_law_628 : decode code 628 = .ok (.iaload, 1) := by decide +kernel
theorem d_law_629 : decode code 629 = .ok (.invokevirtual 86, 3) := by decide +kernel
theorem d_law_632 : decode code 632 = .ok (.if_icmp .eq 16, 3) := by decide +kernel
theorem d_law_635 : decode code 635 = .ok (.iconst 0, 1) := by decide +kernel
theorem d_law_636 : decode code 636 = .ok (.ireturn, 1) := by decide +kernel
theorem d_law_637 : decode code 637 = .ok (.aload_n 1, 1) := by decide +kernel
theorem d_law_638 : decode code 638 = .ok (.invokevirtual 87, 3) := by decide +kernel
theorem d_law_641 : decode code 641 = .ok (.aload_n 2, 1) := by decide +kernel
theorem d_law_642 : decode code 642 = .ok (.invokevirtual 90, 3) := by decide +kernel
theorem d_law_645 : decode code 645 = .ok (.goto 3, 3) := by decide +kernel
theorem d_law_648 : decode code 648 = .ok (.iinc 4 5, 3) := by decide +kernel
theorem d_law_651 : decode code 651 = .ok (.goto (-628), 3) := by decide +kernel
theorem d_law_654 : decode code 654 = .ok (.iconst 1, 1) := by decide +kernel
theorem d_law_655 : decode code 655 = .ok (.ireturn, 1) := by decide +kernel
