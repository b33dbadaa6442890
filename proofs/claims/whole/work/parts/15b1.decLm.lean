theorem dL_law__588 : decode cL_law_ 588 = .ok (.iadd, 1) := by decide +kernel
theorem dL_law__589 : decode cL_law_ 589 = .ok (.iaload, 1) := by decide +kernel
theorem dL_law__590 : decode cL_law_ 590 = .ok (.aload_n 0, 1) := by decide +kernel
theorem dL_law__591 : decode cL_law_ 591 = .ok (.iload 4, 2) := by decide +kernel
theorem dL_law__593 : decode cL_law_ 593 = .ok (.iconst 2, 1) := by decide +kernel
theorem dL_law__594 : decode cL_law_ 594 = .ok (.iadd, 1) := by decide +kernel
theorem dL_law__595 : decode cL_law_ 595 = .ok (.iaload, 1) := by decide +kernel
theorem dL_law__596 : decode cL_law_ 596 = .ok (.aload_n 3, 1) := by decide +kernel
theorem dL_law__597 : decode cL_law_ 597 = .ok (.invokestatic 156, 3) := by decide +kernel
theorem dL_law__600 : decode cL_law_ 600 = .ok (.istore 5, 2) := by decide +kernel
theorem dL_law__602 : decode cL_law_ 602 = .ok (.aload_n 2, 1) := by decide +kernel
theorem dL_law__603 : decode cL_law_ 603 = .ok (.aload_n 0, 1) := by decide +kernel
theorem dL_law__604 : decode cL_law_ 604 = .ok (.iload 4, 2) := by decide +kernel
theorem dL_law__606 : decode cL_law_ 606 = .ok (.iconst 1, 1) := by decide +kernel
theorem dL_law__607 : decode cL_law_ 607 = .ok (.iadd, 1) := by decide +kernel
theorem dL_law__608 : decode cL_law_ 608 = .ok (.iaload, 1) := by decide +kernel
theorem dL_law__609 : decode cL_law_ 609 = .ok (.aload_n 0, 1) := by decide +kernel
theorem dL_law__610 : decode cL_law_ 610 = .ok (.iload 4, 2) := by decide +kernel
theorem dL_law__612 : decode cL_law_ 612 = .ok (.iconst 2, 1) := by decide +kernel
theorem dL_law__613 : decode cL_law_ 613 = .ok (.iadd, 1) := by decide +kernel
theorem dL_law__614 : decode cL_law_ 614 = .ok (.iaload, 1) := by decide +kernel
theorem dL_law__615 : decode cL_law_ 615 = .ok (.invokevirtual 158, 3) := by decide +kernel
theorem dL_law__618 : decode cL_law_ 618 = .ok (.istore 6, 2) := by decide +kernel
theorem dL_law__620 : decode cL_law_ 620 = .ok (.aload_n 2, 1) := by decide +kernel
theorem dL_law__621 : decode cL_law_ 621 = .ok (.invokevirtual 139, 3) := by decide +kernel
theorem dL_law__624 : decode cL_law_ 624 = .ok (.iload 5, 2) := by decide +kernel
theorem dL_law__626 : decode cL_law_ 626 = .ok (.if_icmp .eq 5, 3) := by decide +kernel
theorem dL_law__629 : decode cL_law_ 629 = .ok (.iconst 0, 1) := by decide +kernel
theorem dL_law__630 : decode cL_law_ 630 = .ok (.ireturn, 1) := by decide +kernel
theorem dL_law__631 : decode cL_law_ 631 = .ok (.iload 5, 2) := by decide +kernel
theorem dL_law__633 : decode cL_law_ 633 = .ok (.ifCond .ne 15, 3) := by decide +kernel
theorem dL_law__636 : decode cL_law_ 636 = .ok (.aload_n 3, 1) := by decide +kernel
theorem dL_law__637 : decode cL_law_ 637 = .ok (.iconst 0, 1) := by decide +kernel
theorem dL_law__638 : decode cL_law_ 638 = .ok (.laload, 1) := by decide +kernel
theorem dL_law__639 : decode cL_law_ 639 = .ok (.iload 6, 2) := by decide +kernel
theorem dL_law__641 : decode cL_law_ 641 = .ok (.i2l, 1) := by decide +kernel
theorem dL_law__642 : decode cL_law_ 642 = .ok (.lcmp, 1) := by decide +kernel
theorem dL_law__643 : decode cL_law_ 643 = .ok (.ifCond .eq 5, 3) := by decide +kernel
theorem dL_law__646 : decode cL_law_ 646 = .ok (.iconst 0, 1) := by decide +kernel
theorem dL_law__647 : decode cL_law_ 647 = .ok (.ireturn, 1) := by decide +kernel
theorem dL_law__648 : decode cL_law_ 648 = .ok (.goto 1996, 3) := by decide +kernel
theorem dL_law__651 : decode cL_law_ 651 = .ok (.aload_n 1, 1) := by decide +kernel
theorem dL_law__652 : decode cL_law_ 652 = .ok (.aload_n 0, 1) := by decide +kernel
theorem dL_law__653 : decode cL_law_ 653 = .ok (.iload 4, 2) := by decide +kernel
theorem dL_law__655 : decode cL_law_ 655 = .ok (.iconst 1, 1) := by decide +kernel
theorem dL_law__656 : decode cL_law_ 656 = .ok (.iadd, 1) := by decide +kernel
theorem dL_law__657 : decode cL_law_ 657 = .ok (.iaload, 1) := by decide +kernel
theorem dL_law__658 : decode cL_law_ 658 = .ok (.aload_n 3, 1) := by decide +kernel
theorem dL_law__659 : decode cL_law_ 659 = .ok (.invokestatic 159, 3) := by decide +kernel
theorem dL_law__662 : decode cL_law_ 662 = .ok (.istore 5, 2) := by decide +kernel
theorem dL_law__664 : decode cL_law_ 664 = .ok (.aload_n 2, 1) := by decide +kernel
theorem dL_law__665 : decode cL_law_ 665 = .ok (.aload_n 0, 1) := by decide +kernel
theorem dL_law__666 : decode cL_law_ 666 = .ok (.iload 4, 2) := by decide +kernel
theorem dL_law__668 : decode cL_law_ 668 = .ok (.iconst 1, 1) := by decide +kernel
theorem dL_law__669 : decode cL_law_ 669 = .ok (.iadd, 1) := by decide +kernel
theorem dL_law__670 : decode cL_law_ 670 = .ok (.iaload, 1) := by decide +kernel
theorem dL_law__671 : decode cL_law_ 671 = .ok (.invokevirtual 162, 3) := by decide +kernel
theorem dL_law__674 : decode cL_law_ 674 = .ok (.istore 6, 2) := by decide +kernel
theorem dL_law__676 : decode cL_law_ 676 = .ok (.aload_n 2, 1) := by decide +kernel
theorem dL_law__677 : decode cL_law_ 677 = .ok (.invokevirtual 139, 3) := by decide +kernel
theorem dL_law__680 : decode cL_law_ 680 = .ok (.iload 5, 2) := by decide +kernel
theorem dL_law__682 : decode cL_law_ 682 = .ok (.if_icmp .eq 5, 3) := by decide +kernel
theorem dL_law__685 : decode cL_law_ 685 = .ok (.iconst 0, 1) := by decide +kernel
theorem dL_law__686 : decode cL_law_ 686 = .ok (.ireturn, 1) := by decide +kernel
theorem dL_law__687 : decode cL_law_ 687 = .ok (.iload 5, 2) := by decide +kernel
theorem dL_law__689 : decode cL_law_ 689 = .ok (.ifCond .ne 15, 3) := by decide +kernel
theorem dL_law__692 : decode cL_law_ 692 = .ok (.aload_n 3, 1) := by decide +kernel
theorem dL_law__693 : decode cL_law_ 693 = .ok (.iconst 0, 1) := by decide +kernel
theorem dL_law__694 : decode cL_law_ 694 = .ok (.laload, 1) := by decide +kernel
theorem dL_law__695 : decode cL_law_ 695 = .ok (.iload 6, 2) := by decide +kernel
theorem dL_law__697 : decode cL_law_ 697 = .ok (.i2l, 1) := by decide +kernel
theorem dL_law__698 : decode cL_law_ 698 = .ok (.lcmp, 1) := by decide +kernel
theorem dL_law__699 : decode cL_law_ 699 = .ok (.ifCond .eq 5, 3) := by decide +kernel
theorem dL_law__702 : decode cL_law_ 702 = .ok (.iconst 0, 1) := by decide +kernel
theorem dL_law__703 : decode cL_law_ 703 = .ok (.ireturn, 1) := by decide +kernel
theorem dL_law__704 : decode cL_law_ 704 = .ok (.goto 1940, 3) := by decide +kernel
theorem dL_law__707 : decode cL_law_ 707 = .ok (.aload_n 1, 1) := by decide +kernel
theorem dL_law__708 : decode cL_law_ 708 = .ok (.aload_n 0, 1) := by decide +kernel
theorem dL_law__709 : decode cL_law_ 709 = .ok (.iload 4, 2) := by decide +kernel
theorem dL_law__711 : decode cL_law_ 711 = .ok (.iconst 1, 1) := by decide +kernel
theorem dL_law__712 : decode cL_law_ 712 = .ok (.iadd, 1) := by decide +kernel
theorem dL_law__713 : decode cL_law_ 713 = .ok (.iaload, 1) := by decide +kernel
theorem dL_law__714 : decode cL_law_ 714 = .ok (.aload_n 0, 1) := by decide +kernel
theorem dL_law__715 : decode cL_law_ 715 = .ok (.iload 4, 2) := by decide +kernel
theorem dL_law__717 : decode cL_law_ 717 = .ok (.iconst 2, 1) := by decide +kernel
theorem dL_law__718 : decode cL_law_ 718 = .ok (.iadd, 1) := by decide +kernel
theorem dL_law__719 : decode cL_law_ 719 = .ok (.iaload, 1) := by decide +kernel
theorem dL_law__720 : decode cL_law_ 720 = .ok (.aload_n 3, 1) := by decide +kernel
theorem dL_law__721 : decode cL_law_ 721 = .ok (.invokestatic 163, 3) := by decide +kernel
theorem dL_law__724 : decode cL_law_ 724 = .ok (.istore 5, 2) := by decide +kernel
theorem dL_law__726 : decode cL_law_ 726 = .ok (.aload_n 2, 1) := by decide +kernel
theorem dL_law__727 : decode cL_law_ 727 = .ok (.aload_n 0, 1) := by decide +kernel
theorem dL_law__728 : decode cL_law_ 728 = .ok (.iload 4, 2) := by decide +kernel
theorem dL_law__730 : decode cL_law_ 730 = .ok (.iconst 1, 1) := by decide +kernel
theorem dL_law__731 : decode cL_law_ 731 = .ok (.iadd, 1) := by decide +kernel
theorem dL_law__732 : decode cL_law_ 732 = .ok (.iaload, 1) := by decide +kernel
theorem dL_law__733 : decode cL_law_ 733 = .ok (.aload_n 0, 1) := by decide +kernel
theorem dL_law__734 : decode cL_law_ 734 = .ok (.iload 4, 2) := by decide +kernel
theorem dL_law__736 : decode cL_law_ 736 = .ok (.iconst 2, 1) := by decide +kernel
theorem dL_law__737 : decode cL_law_ 737 = .ok (.iadd, 1) := by decide +kernel
theorem dL_law__738 : decode cL_law_ 738 = .ok (.iaload, 1) := by decide +kernel
theorem dL_law__739 : decode cL_law_ 739 = .ok (.invokevirtual 165, 3) := by decide +kernel
theorem dL_law__742 : decode cL_law_ 742 = .ok (.istore 6, 2) := by decide +kernel
theorem dL_law__744 : decode cL_law_ 744 = .ok (.aload_n 2, 1) := by decide +kernel
theorem dL_law__745 : decode cL_law_ 745 = .ok (.invokevirtual 139, 3) := by decide +kernel
theorem dL_law__748 : decode cL_law_ 748 = .ok (.iload 5, 2) := by decide +kernel
theorem dL_law__750 : decode cL_law_ 750 = .ok (.if_icmp .eq 5, 3) := by decide +kernel
theorem dL_law__753 : decode cL_law_ 753 = .ok (.iconst 0, 1) := by decide +kernel
theorem dL_law__754 : decode cL_law_ 754 = .ok (.ireturn, 1) := by decide +kernel
theorem dL_law__755 : decode cL_law_ 755 = .ok (.iload 5, 2) := by decide +kernel
theorem dL_law__757 : decode cL_law_ 757 = .ok (.ifCond .ne 15, 3) := by decide +kernel
theorem dL_law__760 : decode cL_law_ 760 = .ok (.aload_n 3, 1) := by decide +kernel
theorem dL_law__761 : decode cL_law_ 761 = .ok (.iconst 0, 1) := by decide +kernel
theorem dL_law__762 : decode cL_law_ 762 = .ok (.laload, 1) := by decide +kernel
theorem dL_law__763 : decode cL_law_ 763 = .ok (.iload 6, 2) := by decide +kernel
theorem dL_law__765 : decode cL_law_ 765 = .ok (.i2l, 1) := by decide +kernel
theorem dL_law__766 : decode cL_law_ 766 = .ok (.lcmp, 1) := by decide +kernel
theorem dL_law__767 : decode cL_law_ 767 = .ok (.ifCond .eq 5, 3) := by decide +kernel
theorem dL_law__770 : decode cL_law_ 770 = .ok (.iconst 0, 1) := by decide +kernel
theorem dL_law__771 : decode cL_law_ 771 = .ok (.ireturn, 1) := by decide +kernel
theorem dL_law__772 : decode cL_law_ 772 = .ok (.goto 1872, 3) := by decide +kernel
theorem dL_law__775 : decode cL_law_ 775 = .ok (.aload_n 1, 1) := by decide +kernel
theorem dL_law__776 : decode cL_law_ 776 = .ok (.aload_n 0, 1) := by decide +kernel
theorem dL_law__777 : decode cL_law_ 777 = .ok (.iload 4, 2) := by decide +kernel
theorem dL_law__779 : decode cL_law_ 779 = .ok (.iconst 1, 1) := by decide +kernel
theorem dL_law__780 : decode cL_law_ 780 = .ok (.iadd, 1) := by decide +kernel
theorem dL_law__781 : decode cL_law_ 781 = .ok (.iaload, 1) := by decide +kernel
theorem dL_law__782 : decode cL_law_ 782 = .ok (.aload_n 3, 1) := by decide +kernel
theorem dL_law__783 : decode cL_law_ 783 = .ok (.invokestatic 166, 3) := by decide +kernel
theorem dL_law__786 : decode cL_law_ 786 = .ok (.istore 5, 2) := by decide +kernel
theorem dL_law__788 : decode cL_law_ 788 = .ok (.aload_n 2, 1) := by decide +kernel
theorem dL_law__789 : decode cL_law_ 789 = .ok (.aload_n 0, 1) := by decide +kernel
theorem dL_law__790 : decode cL_law_ 790 = .ok (.iload 4, 2) := by decide +kernel
theorem dL_law__792 : decode cL_law_ 792 = .ok (.iconst 1, 1) := by decide +kernel
theorem dL_law__793 : decode cL_law_ 793 = .ok (.iadd, 1) := by decide +kernel
theorem dL_law__794 : decode cL_law_ 794 = .ok (.iaload, 1) := by decide +kernel
theorem dL_law__795 : decode cL_law_ 795 = .ok (.invokevirtual 168, 3) := by decide +kernel
theorem dL_law__798 : decode cL_law_ 798 = .ok (.istore 6, 2) := by decide +kernel
theorem dL_law__800 : decode cL_law_ 800 = .ok (.aload_n 2, 1) := by decide +kernel
theorem dL_law__801 : decode cL_law_ 801 = .ok (.invokevirtual 139, 3) := by decide +kernel
theorem dL_law__804 : decode cL_law_ 804 = .ok (.iload 5, 2) := by decide +kernel
theorem dL_law__806 : decode cL_law_ 806 = .ok (.if_icmp .eq 5, 3) := by decide +kernel
theorem dL_law__809 : decode cL_law_ 809 = .ok (.iconst 0, 1) := by decide +kernel
theorem dL_law__810 : decode cL_law_ 810 = .ok (.ireturn, 1) := by decide +kernel
theorem dL_law__811 : decode cL_law_ 811 = .ok (.iload 5, 2) := by decide +kernel
theorem dL_law__813 : decode cL_law_ 813 = .ok (.ifCond .ne 15, 3) := by decide +kernel
theorem dL_law__816 : decode cL_law_ 816 = .ok (.aload_n 3, 1) := by decide +kernel
theorem dL_law__817 : decode cL_law_ 817 = .ok (.iconst 0, 1) := by decide +kernel
theorem dL_law__818 : decode cL_law_ 818 = .ok (.laload, 1) := by decide +kernel
theorem dL_law__819 : decode cL_law_ 819 = .ok (.iload 6, 2) := by decide +kernel
theorem dL_law__821 : decode cL_law_ 821 = .ok (.i2l, 1) := by decide +kernel
theorem dL_law__822 : decode cL_law_ 822 = .ok (.lcmp, 1) := by decide +kernel
theorem dL_law__823 : decode cL_law_ 823 = .ok (.ifCond .eq 5, 3) := by decide +kernel
theorem dL_law__826 : decode cL_law_ 826 = .ok (.iconst 0, 1) := by decide +kernel
theorem dL_law__827 : decode cL_law_ 827 = .ok (.ireturn, 1) := by decide +kernel
theorem dL_law__828 : decode cL_law_ 828 = .ok (.goto 1816, 3) := by decide +kernel
theorem dL_law__831 : decode cL_law_ 831 = .ok (.aload_n 1, 1) := by decide +kernel
theorem dL_law__832 : decode cL_law_ 832 = .ok (.aload_n 0, 1) := by decide +kernel
theorem dL_law__833 : decode cL_law_ 833 = .ok (.iload 4, 2) := by decide +kernel
theorem dL_law__835 : decode cL_law_ 835 = .ok (.iconst 1, 1) := by decide +kernel
theorem dL_law__836 : decode cL_law_ 836 = .ok (.iadd, 1) := by decide +kernel
theorem dL_law__837 : decode cL_law_ 837 = .ok (.iaload, 1) := by decide +kernel
theorem dL_law__838 : decode cL_law_ 838 = .ok (.aload_n 0, 1) := by decide +kernel
theorem dL_law__839 : decode cL_law_ 839 = .ok (.iload 4, 2) := by decide +kernel
theorem dL_law__841 : decode cL_law_ 841 = .ok (.iconst 2, 1) := by decide +kernel
theorem dL_law__842 : decode cL_law_ 842 = .ok (.iadd, 1) := by decide +kernel
theorem dL_law__843 : decode cL_law_ 843 = .ok (.iaload, 1) := by decide +kernel
theorem dL_law__844 : decode cL_law_ 844 = .ok (.aload_n 3, 1) := by decide +kernel
theorem dL_law__845 : decode cL_law_ 845 = .ok (.invokestatic 169, 3) := by decide +kernel
theorem dL_law__848 : decode cL_law_ 848 = .ok (.istore 5, 2) := by decide +kernel
theorem dL_law__850 : decode cL_law_ 850 = .ok (.aload_n 2, 1) := by decide +kernel
theorem dL_law__851 : decode cL_law_ 851 = .ok (.aload_n 0, 1) := by decide +kernel
theorem dL_law__852 : decode cL_law_ 852 = .ok (.iload 4, 2) := by decide +kernel
theorem dL_law__854 : decode cL_law_ 854 = .ok (.iconst 1, 1) := by decide +kernel
theorem dL_law__855 : decode cL_law_ 855 = .ok (.iadd, 1) := by decide +kernel
theorem dL_law__856 : decode cL_law_ 856 = .ok (.iaload, 1) := by decide +kernel
theorem dL_law__857 : decode cL_law_ 857 = .ok (.aload_n 0, 1) := by decide +kernel
theorem dL_law__858 : decode cL_law_ 858 = .ok (.iload 4, 2) := by decide +kernel
theorem dL_law__860 : decode cL_law_ 860 = .ok (.iconst 2, 1) := by decide +kernel
theorem dL_law__861 : decode cL_law_ 861 = .ok (.iadd, 1) := by decide +kernel
theorem dL_law__862 : decode cL_law_ 862 = .ok (.iaload, 1) := by decide +kernel
theorem dL_law__863 : decode cL_law_ 863 = .ok (.invokevirtual 171, 3) := by decide +kernel
theorem dL_law__866 : decode cL_law_ 866 = .ok (.istore 6, 2) := by decide +kernel
theorem dL_law__868 : decode cL_law_ 868 = .ok (.aload_n 2, 1) := by decide +kernel
theorem dL_law__869 : decode cL_law_ 869 = .ok (.invokevirtual 139, 3) := by decide +kernel
theorem dL_law__872 : decode cL_law_ 872 = .ok (.iload 5, 2) := by decide +kernel
theorem dL_law__874 : decode cL_law_ 874 = .ok (.if_icmp .eq 5, 3) := by decide +kernel
theorem dL_law__877 : decode cL_law_ 877 = .ok (.iconst 0, 1) := by decide +kernel
theorem dL_law__878 : decode cL_law_ 878 = .ok (.ireturn, 1) := by decide +kernel
theorem dL_law__879 : decode cL_law_ 879 = .ok (.iload 5, 2) := by decide +kernel
theorem dL_law__881 : decode cL_law_ 881 = .ok (.ifCond .ne 15, 3) := by decide +kernel
theorem dL_law__884 : decode cL_law_ 884 = .ok (.aload_n 3, 1) := by decide +kernel
theorem dL_law__885 : decode cL_law_ 885 = .ok (.iconst 0, 1) := by decide +kernel
theorem dL_law__886 : decode cL_law_ 886 = .ok (.laload, 1) := by decide +kernel
theorem dL_law__887 : decode cL_law_ 887 = .ok (.iload 6, 2) := by decide +kernel
theorem dL_law__889 : decode cL_law_ 889 = .ok (.i2l, 1) := by decide +kernel
theorem dL_law__890 : decode cL_law_ 890 = .ok (.lcmp, 1) := by decide +kernel
theorem dL_law__891 : decode cL_law_ 891 = .ok (.ifCond .eq 5, 3) := by decide +kernel
theorem dL_law__894 : decode cL_law_ 894 = .ok (.iconst 0, 1) := by decide +kernel
theorem dL_law__895 : decode cL_law_ 895 = .ok (.ireturn, 1) := by decide +kernel
theorem dL_law__896 : decode cL_law_ 896 = .ok (.goto 1748, 3) := by decide +kernel
theorem dL_law__899 : decode cL_law_ 899 = .ok (.aload_n 1, 1) := by decide +kernel
theorem dL_law__900 : decode cL_law_ 900 = .ok (.aload_n 0, 1) := by decide +kernel
theorem dL_law__901 : decode cL_law_ 901 = .ok (.iload 4, 2) := by decide +kernel
theorem dL_law__903 : decode cL_law_ 903 = .ok (.iconst 1, 1) := by decide +kernel
theorem dL_law__904 : decode cL_law_ 904 = .ok (.iadd, 1) := by decide +kernel
theorem dL_law__905 : decode cL_law_ 905 = .ok (.iaload, 1) := by decide +kernel
theorem dL_law__906 : decode cL_law_ 906 = .ok (.aload_n 0, 1) := by decide +kernel
theorem dL_law__907 : decode cL_law_ 907 = .ok (.iload 4, 2) := by decide +kernel
theorem dL_law__909 : decode cL_law_ 909 = .ok (.iconst 2, 1) := by decide +kernel
theorem dL_law__910 : decode cL_law_ 910 = .ok (.iadd, 1) := by decide +kernel
theorem dL_law__911 : decode cL_law_ 911 = .ok (.iaload, 1) := by decide +kernel
theorem dL_law__912 : decode cL_law_ 912 = .ok (.aload_n 3, 1) := by decide +kernel
theorem dL_law__913 : decode cL_law_ 913 = .ok (.invokestatic 172, 3) := by decide +kernel
theorem dL_law__916 : decode cL_law_ 916 = .ok (.istore 5, 2) := by decide +kernel
theorem dL_law__918 : decode cL_law_ 918 = .ok (.aload_n 2, 1) := by decide +kernel
theorem dL_law__919 : decode cL_law_ 919 = .ok (.aload_n 0, 1) := by decide +kernel
theorem dL_law__920 : decode cL_law_ 920 = .ok (.iload 4, 2) := by decide +kernel
theorem dL_law__922 : decode cL_law_ 922 = .ok (.iconst 1, 1) := by decide +kernel
theorem dL_law__923 : decode cL_law_ 923 = .ok (.iadd, 1) := by decide +kernel
theorem dL_law__924 : decode cL_law_ 924 = .ok (.iaload, 1) := by decide +kernel
theorem dL_law__925 : decode cL_law_ 925 = .ok (.aload_n 0, 1) := by decide +kernel
theorem dL_law__926 : decode cL_law_ 926 = .ok (.iload 4, 2) := by decide +kernel
theorem dL_law__928 : decode cL_law_ 928 = .ok (.iconst 2, 1) := by decide +kernel
theorem dL_law__929 : decode cL_law_ 929 = .ok (.iadd, 1) := by decide +kernel
theorem dL_law__930 : decode cL_law_ 930 = .ok (.iaload, 1) := by decide +kernel
theorem dL_law__931 : decode cL_law_ 931 = .ok (.invokevirtual 174, 3) := by decide +kernel
theorem dL_law__934 : decode cL_law_ 934 = .ok (.istore 6, 2) := by decide +kernel
theorem dL_law__936 : decode cL_law_ 936 = .ok (.aload_n 2, 1) := by decide +kernel
theorem dL_law__937 : decode cL_law_ 937 = .ok (.invokevirtual 139, 3) := by decide +kernel
theorem dL_law__940 : decode cL_law_ 940 = .ok (.iload 5, 2) := by decide +kernel
theorem dL_law__942 : decode cL_law_ 942 = .ok (.if_icmp .eq 5, 3) := by decide +kernel
theorem dL_law__945 : decode cL_law_ 945 = .ok (.iconst 0, 1) := by decide +kernel
theorem dL_law__946 : decode cL_law_ 946 = .ok (.ireturn, 1) := by decide +kernel
theorem dL_law__947 : decode cL_law_ 947 = .ok (.iload 5, 2) := by decide +kernel
theorem dL_law__949 : decode cL_law_ 949 = .ok (.ifCond .ne 15, 3) := by decide +kernel
theorem dL_law__952 : decode cL_law_ 952 = .ok (.aload_n 3, 1) := by decide +kernel
theorem dL_law__953 : decode cL_law_ 953 = .ok (.iconst 0, 1) := by decide +kernel
theorem dL_law__954 : decode cL_law_ 954 = .ok (.laload, 1) := by decide +kernel
theorem dL_law__955 : decode cL_law_ 955 = .ok (.iload 6, 2) := by decide +kernel
theorem dL_law__957 : decode cL_law_ 957 = .ok (.i2l, 1) := by decide +kernel
theorem dL_law__958 : decode cL_law_ 958 = .ok (.lcmp, 1) := by decide +kernel
theorem dL_law__959 : decode cL_law_ 959 = .ok (.ifCond .eq 5, 3) := by decide +kernel
theorem dL_law__962 : decode cL_law_ 962 = .ok (.iconst 0, 1) := by decide +kernel
theorem dL_law__963 : decode cL_law_ 963 = .ok (.ireturn, 1) := by decide +kernel
theorem dL_law__964 : decode cL_law_ 964 = .ok (.goto 1680, 3) := by decide +kernel
theorem dL_law__967 : decode cL_law_ 967 = .ok (.aload_n 1, 1) := by decide +kernel
theorem dL_law__968 : decode cL_law_ 968 = .ok (.aload_n 0, 1) := by decide +kernel
theorem dL_law__969 : decode cL_law_ 969 = .ok (.iload 4, 2) := by decide +kernel
theorem dL_law__971 : decode cL_law_ 971 = .ok (.iconst 1, 1) := by decide +kernel
