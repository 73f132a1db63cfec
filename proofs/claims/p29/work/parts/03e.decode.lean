theorem dL_law_491 : decode cL_law 491 = .ok (.ifCond .eq 25, 3) := by decide +kernel
theorem dL_law_494 : decode cL_law 494 = .ok (.iload 14, 2) := by decide +kernel
theorem dL_law_496 : decode cL_law 496 = .ok (.ifCond .le 20, 3) := by decide +kernel
theorem dL_law_499 : decode cL_law 499 = .ok (.iload 19, 2) := by decide +kernel
theorem dL_law_501 : decode cL_law 501 = .ok (.ifCond .ge 15, 3) := by decide +kernel
theorem dL_law_504 : decode cL_law 504 = .ok (.aload_n 2, 1) := by decide +kernel
theorem dL_law_505 : decode cL_law 505 = .ok (.iconst 0, 1) := by decide +kernel
theorem dL_law_506 : decode cL_law 506 = .ok (.iaload, 1) := by decide +kernel
theorem dL_law_507 : decode cL_law 507 = .ok (.bipush 14, 2) := by decide +kernel
theorem dL_law_509 : decode cL_law 509 = .ok (.if_icmp .ge 7, 3) := by decide +kernel
theorem dL_law_512 : decode cL_law 512 = .ok (.iconst 1, 1) := by decide +kernel
theorem dL_law_513 : decode cL_law 513 = .ok (.goto 4, 3) := by decide +kernel
theorem dL_law_516 : decode cL_law 516 = .ok (.iconst 0, 1) := by decide +kernel
theorem dL_law_517 : decode cL_law 517 = .ok (.istore 24, 2) := by decide +kernel
theorem dL_law_519 : decode cL_law 519 = .ok (.aload_n 2, 1) := by decide +kernel
theorem dL_law_520 : decode cL_law 520 = .ok (.iconst 0, 1) := by decide +kernel
theorem dL_law_521 : decode cL_law 521 = .ok (.iaload, 1) := by decide +kernel
theorem dL_law_522 : decode cL_law 522 = .ok (.bipush 14, 2) := by decide +kernel
theorem dL_law_524 : decode cL_law 524 = .ok (.if_icmp .lt 18, 3) := by decide +kernel
theorem dL_law_527 : decode cL_law 527 = .ok (.iload 18, 2) := by decide +kernel
theorem dL_law_529 : decode cL_law 529 = .ok (.ifCond .eq 13, 3) := by decide +kernel
theorem dL_law_532 : decode cL_law 532 = .ok (.iload 14, 2) := by decide +kernel
theorem dL_law_534 : decode cL_law 534 = .ok (.ifCond .eq 8, 3) := by decide +kernel
theorem dL_law_537 : decode cL_law 537 = .ok (.iload 19, 2) := by decide +kernel
theorem dL_law_539 : decode cL_law 539 = .ok (.ifCond .lt 25, 3) := by decide +kernel
theorem dL_law_542 : decode cL_law 542 = .ok (.aload_n 1, 1) := by decide +kernel
theorem dL_law_543 : decode cL_law 543 = .ok (.iload 23, 2) := by decide +kernel
theorem dL_law_545 : decode cL_law 545 = .ok (.ifCond .eq 7, 3) := by decide +kernel
theorem dL_law_548 : decode cL_law 548 = .ok (.iconst 0, 1) := by decide +kernel
theorem dL_law_549 : decode cL_law 549 = .ok (.goto 4, 3) := by decide +kernel
theorem dL_law_552 : decode cL_law 552 = .ok (.iconst 1, 1) := by decide +kernel
theorem dL_law_553 : decode cL_law 553 = .ok (.iload 12, 2) := by decide +kernel
theorem dL_law_555 : decode cL_law 555 = .ok (.iload 14, 2) := by decide +kernel
theorem dL_law_557 : decode cL_law 557 = .ok (.iconst 0, 1) := by decide +kernel
theorem dL_law_558 : decode cL_law 558 = .ok (.invokestatic 85, 3) := by decide +kernel
theorem dL_law_561 : decode cL_law 561 = .ok (.goto 5, 3) := by decide +kernel
theorem dL_law_564 : decode cL_law 564 = .ok (.bipush (-13), 2) := by decide +kernel
theorem dL_law_566 : decode cL_law 566 = .ok (.istore 21, 2) := by decide +kernel
theorem dL_law_568 : decode cL_law 568 = .ok (.iload 21, 2) := by decide +kernel
theorem dL_law_570 : decode cL_law 570 = .ok (.bipush (-9), 2) := by decide +kernel
theorem dL_law_572 : decode cL_law 572 = .ok (.if_icmp .ne 7, 3) := by decide +kernel
theorem dL_law_575 : decode cL_law 575 = .ok (.iconst 1, 1) := by decide +kernel
theorem dL_law_576 : decode cL_law 576 = .ok (.goto 4, 3) := by decide +kernel
theorem dL_law_579 : decode cL_law 579 = .ok (.iconst 0, 1) := by decide +kernel
theorem dL_law_580 : decode cL_law 580 = .ok (.istore 22, 2) := by decide +kernel
theorem dL_law_582 : decode cL_law 582 = .ok (.iload 24, 2) := by decide +kernel
theorem dL_law_584 : decode cL_law 584 = .ok (.ifCond .ne 38, 3) := by decide +kernel
theorem dL_law_587 : decode cL_law 587 = .ok (.iload 21, 2) := by decide +kernel
theorem dL_law_589 : decode cL_law 589 = .ok (.iload 18, 2) := by decide +kernel
theorem dL_law_591 : decode cL_law 591 = .ok (.ifCond .ne 8, 3) := by decide +kernel
theorem dL_law_594 : decode cL_law 594 = .ok (.bipush (-11), 2) := by decide +kernel
theorem dL_law_596 : decode cL_law 596 = .ok (.goto 15, 3) := by decide +kernel
theorem dL_law_599 : decode cL_law 599 = .ok (.iload 14, 2) := by decide +kernel
theorem dL_law_601 : decode cL_law 601 = .ok (.ifCond .ne 8, 3) := by decide +kernel
theorem dL_law_604 : decode cL_law 604 = .ok (.bipush (-12), 2) := by decide +kernel
theorem dL_law_606 : decode cL_law 606 = .ok (.goto 5, 3) := by decide +kernel
theorem dL_law_609 : decode cL_law 609 = .ok (.bipush (-13), 2) := by decide +kernel
theorem dL_law_611 : decode cL_law 611 = .ok (.if_icmp .ne 7, 3) := by decide +kernel
theorem dL_law_614 : decode cL_law 614 = .ok (.iconst 1, 1) := by decide +kernel
theorem dL_law_615 : decode cL_law 615 = .ok (.goto 54, 3) := by decide +kernel
theorem dL_law_618 : decode cL_law 618 = .ok (.iconst 0, 1) := by decide +kernel
theorem dL_law_619 : decode cL_law 619 = .ok (.goto 50, 3) := by decide +kernel
theorem dL_law_622 : decode cL_law 622 = .ok (.iload 21, 2) := by decide +kernel
theorem dL_law_624 : decode cL_law 624 = .ok (.iconst 1, 1) := by decide +kernel
theorem dL_law_625 : decode cL_law 625 = .ok (.if_icmp .le 21, 3) := by decide +kernel
theorem dL_law_628 : decode cL_law 628 = .ok (.iload 21, 2) := by decide +kernel
theorem dL_law_630 : decode cL_law 630 = .ok (.sipush 500, 3) := by decide +kernel
theorem dL_law_633 : decode cL_law 633 = .ok (.if_icmp .eq 13, 3) := by decide +kernel
theorem dL_law_636 : decode cL_law 636 = .ok (.aload_n 2, 1) := by decide +kernel
theorem dL_law_637 : decode cL_law 637 = .ok (.aload_n 3, 1) := by decide +kernel
theorem dL_law_638 : decode cL_law 638 = .ok (.iload 21, 2) := by decide +kernel
theorem dL_law_640 : decode cL_law 640 = .ok (.invokestatic 13, 3) := by decide +kernel
theorem dL_law_643 : decode cL_law 643 = .ok (.ifCond .eq 21, 3) := by decide +kernel
theorem dL_law_646 : decode cL_law 646 = .ok (.iload 22, 2) := by decide +kernel
theorem dL_law_648 : decode cL_law 648 = .ok (.ifCond .ne 16, 3) := by decide +kernel
theorem dL_law_651 : decode cL_law 651 = .ok (.iload 21, 2) := by decide +kernel
theorem dL_law_653 : decode cL_law 653 = .ok (.bipush (-13), 2) := by decide +kernel
theorem dL_law_655 : decode cL_law 655 = .ok (.if_icmp .ne 13, 3) := by decide +kernel
theorem dL_law_658 : decode cL_law 658 = .ok (.iload 20, 2) := by decide +kernel
theorem dL_law_660 : decode cL_law 660 = .ok (.iconst 2, 1) := by decide +kernel
theorem dL_law_661 : decode cL_law 661 = .ok (.if_icmp .ge 7, 3) := by decide +kernel
theorem dL_law_664 : decode cL_law 664 = .ok (.iconst 1, 1) := by decide +kernel
theorem dL_law_665 : decode cL_law 665 = .ok (.goto 4, 3) := by decide +kernel
theorem dL_law_668 : decode cL_law 668 = .ok (.iconst 0, 1) := by decide +kernel
theorem dL_law_669 : decode cL_law 669 = .ok (.istore 7, 2) := by decide +kernel
theorem dL_law_671 : decode cL_law 671 = .ok (.iload 24, 2) := by decide +kernel
theorem dL_law_673 : decode cL_law 673 = .ok (.ifCond .eq 47, 3) := by decide +kernel
theorem dL_law_676 : decode cL_law 676 = .ok (.iload 21, 2) := by decide +kernel
theorem dL_law_678 : decode cL_law 678 = .ok (.iconst 1, 1) := by decide +kernel
theorem dL_law_679 : decode cL_law 679 = .ok (.if_icmp .le 41, 3) := by decide +kernel
theorem dL_law_682 : decode cL_law 682 = .ok (.aload_n 2, 1) := by decide +kernel
theorem dL_law_683 : decode cL_law 683 = .ok (.aload_n 3, 1) := by decide +kernel
theorem dL_law_684 : decode cL_law 684 = .ok (.iload 12, 2) := by decide +kernel
theorem dL_law_686 : decode cL_law 686 = .ok (.iload 14, 2) := by decide +kernel
theorem dL_law_688 : decode cL_law 688 = .ok (.iload 21, 2) := by decide +kernel
theorem dL_law_690 : decode cL_law 690 = .ok (.iload 23, 2) := by decide +kernel
theorem dL_law_692 : decode cL_law 692 = .ok (.ifCond .eq 7, 3) := by decide +kernel
theorem dL_law_695 : decode cL_law 695 = .ok (.iconst 0, 1) := by decide +kernel
theorem dL_law_696 : decode cL_law 696 = .ok (.goto 4, 3) := by decide +kernel
theorem dL_law_699 : decode cL_law 699 = .ok (.iconst 1, 1) := by decide +kernel
theorem dL_law_700 : decode cL_law 700 = .ok (.invokestatic 123, 3) := by decide +kernel
theorem dL_law_703 : decode cL_law 703 = .ok (.iload 23, 2) := by decide +kernel
theorem dL_law_705 : decode cL_law 705 = .ok (.ifCond .eq 15, 3) := by decide +kernel
theorem dL_law_708 : decode cL_law 708 = .ok (.aload_n 2, 1) := by decide +kernel
theorem dL_law_709 : decode cL_law 709 = .ok (.aload 4, 2) := by decide +kernel
theorem dL_law_711 : decode cL_law 711 = .ok (.aload 5, 2) := by decide +kernel
theorem dL_law_713 : decode cL_law 713 = .ok (.aload 6, 2) := by decide +kernel
theorem dL_law_715 : decode cL_law 715 = .ok (.iload 21, 2) := by decide +kernel
theorem dL_law_717 : decode cL_law 717 = .ok (.invokestatic 127, 3) := by decide +kernel
theorem dL_law_720 : decode cL_law 720 = .ok (.goto 1320, 3) := by decide +kernel
theorem dL_law_723 : decode cL_law 723 = .ok (.iload 10, 2) := by decide +kernel
theorem dL_law_725 : decode cL_law 725 = .ok (.iconst 3, 1) := by decide +kernel
theorem dL_law_726 : decode cL_law 726 = .ok (.if_icmp .ne 174, 3) := by decide +kernel
theorem dL_law_729 : decode cL_law 729 = .ok (.aload_n 2, 1) := by decide +kernel
theorem dL_law_730 : decode cL_law 730 = .ok (.iconst 0, 1) := by decide +kernel
theorem dL_law_731 : decode cL_law 731 = .ok (.iaload, 1) := by decide +kernel
theorem dL_law_732 : decode cL_law 732 = .ok (.bipush 14, 2) := by decide +kernel
theorem dL_law_734 : decode cL_law 734 = .ok (.if_icmp .ge 166, 3) := by decide +kernel
theorem dL_law_737 : decode cL_law 737 = .ok (.iload 18, 2) := by decide +kernel
theorem dL_law_739 : decode cL_law 739 = .ok (.ifCond .eq 22, 3) := by decide +kernel
theorem dL_law_742 : decode cL_law 742 = .ok (.iload 17, 2) := by decide +kernel
theorem dL_law_744 : decode cL_law 744 = .ok (.ifCond .lt 17, 3) := by decide +kernel
theorem dL_law_747 : decode cL_law 747 = .ok (.iload 14, 2) := by decide +kernel
theorem dL_law_749 : decode cL_law 749 = .ok (.ifCond .le 12, 3) := by decide +kernel
theorem dL_law_752 : decode cL_law 752 = .ok (.iload 19, 2) := by decide +kernel
theorem dL_law_754 : decode cL_law 754 = .ok (.ifCond .ge 7, 3) := by decide +kernel
theorem dL_law_757 : decode cL_law 757 = .ok (.iconst 1, 1) := by decide +kernel
theorem dL_law_758 : decode cL_law 758 = .ok (.goto 4, 3) := by decide +kernel
theorem dL_law_761 : decode cL_law 761 = .ok (.iconst 0, 1) := by decide +kernel
theorem dL_law_762 : decode cL_law 762 = .ok (.istore 23, 2) := by decide +kernel
theorem dL_law_764 : decode cL_law 764 = .ok (.aload_n 1, 1) := by decide +kernel
theorem dL_law_765 : decode cL_law 765 = .ok (.iconst 2, 1) := by decide +kernel
theorem dL_law_766 : decode cL_law 766 = .ok (.iload 12, 2) := by decide +kernel
theorem dL_law_768 : decode cL_law 768 = .ok (.iload 14, 2) := by decide +kernel
theorem dL_law_770 : decode cL_law 770 = .ok (.iload 16, 2) := by decide +kernel
theorem dL_law_772 : decode cL_law 772 = .ok (.invokestatic 85, 3) := by decide +kernel
theorem dL_law_775 : decode cL_law 775 = .ok (.istore 21, 2) := by decide +kernel
theorem dL_law_777 : decode cL_law 777 = .ok (.iload 21, 2) := by decide +kernel
theorem dL_law_779 : decode cL_law 779 = .ok (.bipush (-9), 2) := by decide +kernel
theorem dL_law_781 : decode cL_law 781 = .ok (.if_icmp .ne 7, 3) := by decide +kernel
theorem dL_law_784 : decode cL_law 784 = .ok (.iconst 1, 1) := by decide +kernel
theorem dL_law_785 : decode cL_law 785 = .ok (.goto 4, 3) := by decide +kernel
theorem dL_law_788 : decode cL_law 788 = .ok (.iconst 0, 1) := by decide +kernel
theorem dL_law_789 : decode cL_law 789 = .ok (.istore 22, 2) := by decide +kernel
theorem dL_law_791 : decode cL_law 791 = .ok (.iload 23, 2) := by decide +kernel
theorem dL_law_793 : decode cL_law 793 = .ok (.ifCond .ne 43, 3) := by decide +kernel
theorem dL_law_796 : decode cL_law 796 = .ok (.iload 21, 2) := by decide +kernel
theorem dL_law_798 : decode cL_law 798 = .ok (.iload 18, 2) := by decide +kernel
theorem dL_law_800 : decode cL_law 800 = .ok (.ifCond .eq 8, 3) := by decide +kernel
theorem dL_law_803 : decode cL_law 803 = .ok (.iload 17, 2) := by decide +kernel
theorem dL_law_805 : decode cL_law 805 = .ok (.ifCond .ge 8, 3) := by decide +kernel
theorem dL_law_808 : decode cL_law 808 = .ok (.bipush (-11), 2) := by decide +kernel
theorem dL_law_810 : decode cL_law 810 = .ok (.goto 15, 3) := by decide +kernel
theorem dL_law_813 : decode cL_law 813 = .ok (.iload 14, 2) := by decide +kernel
theorem dL_law_815 : decode cL_law 815 = .ok (.ifCond .ne 8, 3) := by decide +kernel
theorem dL_law_818 : decode cL_law 818 = .ok (.bipush (-12), 2) := by decide +kernel
theorem dL_law_820 : decode cL_law 820 = .ok (.goto 5, 3) := by decide +kernel
theorem dL_law_823 : decode cL_law 823 = .ok (.bipush (-13), 2) := by decide +kernel
theorem dL_law_825 : decode cL_law 825 = .ok (.if_icmp .ne 7, 3) := by decide +kernel
theorem dL_law_828 : decode cL_law 828 = .ok (.iconst 1, 1) := by decide +kernel
theorem dL_law_829 : decode cL_law 829 = .ok (.goto 44, 3) := by decide +kernel
theorem dL_law_832 : decode cL_law 832 = .ok (.iconst 0, 1) := by decide +kernel
theorem dL_law_833 : decode cL_law 833 = .ok (.goto 40, 3) := by decide +kernel
theorem dL_law_836 : decode cL_law 836 = .ok (.iload 21, 2) := by decide +kernel
theorem dL_law_838 : decode cL_law 838 = .ok (.aload_n 2, 1) := by decide +kernel
theorem dL_law_839 : decode cL_law 839 = .ok (.aload_n 3, 1) := by decide +kernel
theorem dL_law_840 : decode cL_law 840 = .ok (.iload 16, 2) := by decide +kernel
theorem dL_law_842 : decode cL_law 842 = .ok (.invokestatic 13, 3) := by decide +kernel
theorem dL_law_845 : decode cL_law 845 = .ok (.iconst 1, 1) := by decide +kernel
theorem dL_law_846 : decode cL_law 846 = .ok (.iadd, 1) := by decide +kernel
theorem dL_law_847 : decode cL_law 847 = .ok (.if_icmp .eq 21, 3) := by decide +kernel
theorem dL_law_850 : decode cL_law 850 = .ok (.iload 22, 2) := by decide +kernel
theorem dL_law_852 : decode cL_law 852 = .ok (.ifCond .ne 16, 3) := by decide +kernel
theorem dL_law_855 : decode cL_law 855 = .ok (.iload 21, 2) := by decide +kernel
theorem dL_law_857 : decode cL_law 857 = .ok (.bipush (-13), 2) := by decide +kernel
theorem dL_law_859 : decode cL_law 859 = .ok (.if_icmp .ne 13, 3) := by decide +kernel
theorem dL_law_862 : decode cL_law 862 = .ok (.iload 20, 2) := by decide +kernel
theorem dL_law_864 : decode cL_law 864 = .ok (.iconst 2, 1) := by decide +kernel
theorem dL_law_865 : decode cL_law 865 = .ok (.if_icmp .ge 7, 3) := by decide +kernel
theorem dL_law_868 : decode cL_law 868 = .ok (.iconst 1, 1) := by decide +kernel
theorem dL_law_869 : decode cL_law 869 = .ok (.goto 4, 3) := by decide +kernel
theorem dL_law_872 : decode cL_law 872 = .ok (.iconst 0, 1) := by decide +kernel
theorem dL_law_873 : decode cL_law 873 = .ok (.istore 7, 2) := by decide +kernel
theorem dL_law_875 : decode cL_law 875 = .ok (.iload 23, 2) := by decide +kernel
theorem dL_law_877 : decode cL_law 877 = .ok (.ifCond .eq 20, 3) := by decide +kernel
theorem dL_law_880 : decode cL_law 880 = .ok (.iload 21, 2) := by decide +kernel
theorem dL_law_882 : decode cL_law 882 = .ok (.ifCond .le 15, 3) := by decide +kernel
theorem dL_law_885 : decode cL_law 885 = .ok (.aload_n 2, 1) := by decide +kernel
theorem dL_law_886 : decode cL_law 886 = .ok (.aload_n 3, 1) := by decide +kernel
theorem dL_law_887 : decode cL_law 887 = .ok (.iload 12, 2) := by decide +kernel
theorem dL_law_889 : decode cL_law 889 = .ok (.iload 14, 2) := by decide +kernel
theorem dL_law_891 : decode cL_law 891 = .ok (.iload 16, 2) := by decide +kernel
theorem dL_law_893 : decode cL_law 893 = .ok (.iconst 0, 1) := by decide +kernel
theorem dL_law_894 : decode cL_law 894 = .ok (.invokestatic 123, 3) := by decide +kernel
theorem dL_law_897 : decode cL_law 897 = .ok (.goto 1143, 3) := by decide +kernel
theorem dL_law_900 : decode cL_law 900 = .ok (.iload 10, 2) := by decide +kernel
theorem dL_law_902 : decode cL_law 902 = .ok (.bipush 6, 2) := by decide +kernel
theorem dL_law_904 : decode cL_law 904 = .ok (.if_icmp .ge 177, 3) := by decide +kernel
theorem dL_law_907 : decode cL_law 907 = .ok (.iload 18, 2) := by decide +kernel
theorem dL_law_909 : decode cL_law 909 = .ok (.ifCond .eq 39, 3) := by decide +kernel
theorem dL_law_912 : decode cL_law 912 = .ok (.iload 19, 2) := by decide +kernel
theorem dL_law_914 : decode cL_law 914 = .ok (.ifCond .lt 34, 3) := by decide +kernel
theorem dL_law_917 : decode cL_law 917 = .ok (.aload_n 3, 1) := by decide +kernel
theorem dL_law_918 : decode cL_law 918 = .ok (.iconst 4, 1) := by decide +kernel
theorem dL_law_919 : decode cL_law 919 = .ok (.iload 19, 2) := by decide +kernel
theorem dL_law_921 : decode cL_law 921 = .ok (.imul, 1) := by decide +kernel
theorem dL_law_922 : decode cL_law 922 = .ok (.iconst 3, 1) := by decide +kernel
theorem dL_law_923 : decode cL_law 923 = .ok (.iadd, 1) := by decide +kernel
theorem dL_law_924 : decode cL_law 924 = .ok (.iaload, 1) := by decide +kernel
theorem dL_law_925 : decode cL_law 925 = .ok (.ifCond .eq 19, 3) := by decide +kernel
theorem dL_law_928 : decode cL_law 928 = .ok (.aload_n 2, 1) := by decide +kernel
theorem dL_law_929 : decode cL_law 929 = .ok (.aload_n 3, 1) := by decide +kernel
theorem dL_law_930 : decode cL_law 930 = .ok (.aload_n 3, 1) := by decide +kernel
theorem dL_law_931 : decode cL_law 931 = .ok (.iconst 4, 1) := by decide +kernel
theorem dL_law_932 : decode cL_law 932 = .ok (.iload 19, 2) := by decide +kernel
theorem dL_law_934 : decode cL_law 934 = .ok (.imul, 1) := by decide +kernel
theorem dL_law_935 : decode cL_law 935 = .ok (.iconst 2, 1) := by decide +kernel
theorem dL_law_936 : decode cL_law 936 = .ok (.iadd, 1) := by decide +kernel
theorem dL_law_937 : decode cL_law 937 = .ok (.iaload, 1) := by decide +kernel
theorem dL_law_938 : decode cL_law 938 = .ok (.invokestatic 76, 3) := by decide +kernel
theorem dL_law_941 : decode cL_law 941 = .ok (.ifCond .ne 7, 3) := by decide +kernel
theorem dL_law_944 : decode cL_law 944 = .ok (.iconst 1, 1) := by decide +kernel
theorem dL_law_945 : decode cL_law 945 = .ok (.goto 4, 3) := by decide +kernel
theorem dL_law_948 : decode cL_law 948 = .ok (.iconst 0, 1) := by decide +kernel
theorem dL_law_949 : decode cL_law 949 = .ok (.istore 23, 2) := by decide +kernel
theorem dL_law_951 : decode cL_law 951 = .ok (.aload_n 1, 1) := by decide +kernel
theorem dL_law_952 : decode cL_law 952 = .ok (.iconst 3, 1) := by decide +kernel
theorem dL_law_953 : decode cL_law 953 = .ok (.iload 12, 2) := by decide +kernel
theorem dL_law_955 : decode cL_law 955 = .ok (.iload 14, 2) := by decide +kernel
theorem dL_law_957 : decode cL_law 957 = .ok (.iconst 0, 1) := by decide +kernel
theorem dL_law_958 : decode cL_law 958 = .ok (.invokestatic 85, 3) := by decide +kernel
theorem dL_law_961 : decode cL_law 961 = .ok (.istore 21, 2) := by decide +kernel
theorem dL_law_963 : decode cL_law 963 = .ok (.iload 21, 2) := by decide +kernel
theorem dL_law_965 : decode cL_law 965 = .ok (.bipush (-9), 2) := by decide +kernel
theorem dL_law_967 : decode cL_law 967 = .ok (.if_icmp .ne 7, 3) := by decide +kernel
theorem dL_law_970 : decode cL_law 970 = .ok (.iconst 1, 1) := by decide +kernel
theorem dL_law_971 : decode cL_law 971 = .ok (.goto 4, 3) := by decide +kernel
theorem dL_law_974 : decode cL_law 974 = .ok (.iconst 0, 1) := by decide +kernel
theorem dL_law_975 : decode cL_law 975 = .ok (.istore 22, 2) := by decide +kernel
theorem dL_law_977 : decode cL_law 977 = .ok (.iload 23, 2) := by decide +kernel
theorem dL_law_979 : decode cL_law 979 = .ok (.ifCond .ne 38, 3) := by decide +kernel
theorem dL_law_982 : decode cL_law 982 = .ok (.iload 21, 2) := by decide +kernel
theorem dL_law_984 : decode cL_law 984 = .ok (.iload 18, 2) := by decide +kernel
theorem dL_law_986 : decode cL_law 986 = .ok (.ifCond .ne 8, 3) := by decide +kernel
theorem dL_law_989 : decode cL_law 989 = .ok (.bipush (-11), 2) := by decide +kernel
theorem dL_law_991 : decode cL_law 991 = .ok (.goto 15, 3) := by decide +kernel
theorem dL_law_994 : decode cL_law 994 = .ok (.iload 14, 2) := by decide +kernel
theorem dL_law_996 : decode cL_law 996 = .ok (.ifCond .ne 8, 3) := by decide +kernel
theorem dL_law_999 : decode cL_law 999 = .ok (.bipush (-12), 2) := by decide +kernel
theorem dL_law_1001 : decode cL_law 1001 = .ok (.goto 5, 3) := by decide +kernel
theorem dL_law_1004 : decode cL_law 1004 = .ok (.bipush (-13), 2) := by decide +kernel
theorem dL_law_1006 : decode cL_law 1006 = .ok (.if_icmp .ne 7, 3) := by decide +kernel
theorem dL_law_1009 : decode cL_law 1009 = .ok (.iconst 1, 1) := by decide +kernel
theorem dL_law_1010 : decode cL_law 1010 = .ok (.goto 43, 3) := by decide +kernel
theorem dL_law_1013 : decode cL_law 1013 = .ok (.iconst 0, 1) := by decide +kernel
theorem dL_law_1014 : decode cL_law 1014 = .ok (.goto 39, 3) := by decide +kernel
theorem dL_law_1017 : decode cL_law 1017 = .ok (.iload 21, 2) := by decide +kernel
theorem dL_law_1019 : decode cL_law 1019 = .ok (.aload_n 3, 1) := by decide +kernel
theorem dL_law_1020 : decode cL_law 1020 = .ok (.iconst 4, 1) := by decide +kernel
theorem dL_law_1021 : decode cL_law 1021 = .ok (.iload 19, 2) := by decide +kernel
theorem dL_law_1023 : decode cL_law 1023 = .ok (.imul, 1) := by decide +kernel
theorem dL_law_1024 : decode cL_law 1024 = .ok (.iconst 2, 1) := by decide +kernel
theorem dL_law_1025 : decode cL_law 1025 = .ok (.iadd, 1) := by decide +kernel
theorem dL_law_1026 : decode cL_law 1026 = .ok (.iaload, 1) := by decide +kernel
theorem dL_law_1027 : decode cL_law 1027 = .ok (.if_icmp .eq 21, 3) := by decide +kernel
theorem dL_law_1030 : decode cL_law 1030 = .ok (.iload 22, 2) := by decide +kernel
theorem dL_law_1032 : decode cL_law 1032 = .ok (.ifCond .ne 16, 3) := by decide +kernel
theorem dL_law_1035 : decode cL_law 1035 = .ok (.iload 21, 2) := by decide +kernel
theorem dL_law_1037 : decode cL_law 1037 = .ok (.bipush (-13), 2) := by decide +kernel
theorem dL_law_1039 : decode cL_law 1039 = .ok (.if_icmp .ne 13, 3) := by decide +kernel
theorem dL_law_1042 : decode cL_law 1042 = .ok (.iload 20, 2) := by decide +kernel
theorem dL_law_1044 : decode cL_law 1044 = .ok (.iconst 2, 1) := by decide +kernel
theorem dL_law_1045 : decode cL_law 1045 = .ok (.if_icmp .ge 7, 3) := by decide +kernel
theorem dL_law_1048 : decode cL_law 1048 = .ok (.iconst 1, 1) := by decide +kernel
theorem dL_law_1049 : decode cL_law 1049 = .ok (.goto 4, 3) := by decide +kernel
theorem dL_law_1052 : decode cL_law 1052 = .ok (.iconst 0, 1) := by decide +kernel
theorem dL_law_1053 : decode cL_law 1053 = .ok (.istore 7, 2) := by decide +kernel
theorem dL_law_1055 : decode cL_law 1055 = .ok (.iload 23, 2) := by decide +kernel
theorem dL_law_1057 : decode cL_law 1057 = .ok (.ifCond .eq 21, 3) := by decide +kernel
theorem dL_law_1060 : decode cL_law 1060 = .ok (.iload 21, 2) := by decide +kernel
