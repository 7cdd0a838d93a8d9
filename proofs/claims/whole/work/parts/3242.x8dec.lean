-- the reference's constructor, decoded
theorem dX8_init_540 : decode cX8_init 540 = .ok (.iastore, 1) := by decide +kernel
theorem dX8_init_541 : decode cX8_init 541 = .ok (.dup, 1) := by decide +kernel
theorem dX8_init_542 : decode cX8_init 542 = .ok (.bipush 88, 2) := by decide +kernel
theorem dX8_init_544 : decode cX8_init 544 = .ok (.bipush 111, 2) := by decide +kernel
theorem dX8_init_546 : decode cX8_init 546 = .ok (.iastore, 1) := by decide +kernel
theorem dX8_init_547 : decode cX8_init 547 = .ok (.dup, 1) := by decide +kernel
theorem dX8_init_548 : decode cX8_init 548 = .ok (.bipush 89, 2) := by decide +kernel
theorem dX8_init_550 : decode cX8_init 550 = .ok (.bipush 114, 2) := by decide +kernel
theorem dX8_init_552 : decode cX8_init 552 = .ok (.iastore, 1) := by decide +kernel
theorem dX8_init_553 : decode cX8_init 553 = .ok (.dup, 1) := by decide +kernel
theorem dX8_init_554 : decode cX8_init 554 = .ok (.bipush 90, 2) := by decide +kernel
theorem dX8_init_556 : decode cX8_init 556 = .ok (.bipush 32, 2) := by decide +kernel
theorem dX8_init_558 : decode cX8_init 558 = .ok (.iastore, 1) := by decide +kernel
theorem dX8_init_559 : decode cX8_init 559 = .ok (.dup, 1) := by decide +kernel
theorem dX8_init_560 : decode cX8_init 560 = .ok (.bipush 91, 2) := by decide +kernel
theorem dX8_init_562 : decode cX8_init 562 = .ok (.bipush 110, 2) := by decide +kernel
theorem dX8_init_564 : decode cX8_init 564 = .ok (.iastore, 1) := by decide +kernel
theorem dX8_init_565 : decode cX8_init 565 = .ok (.dup, 1) := by decide +kernel
theorem dX8_init_566 : decode cX8_init 566 = .ok (.bipush 92, 2) := by decide +kernel
theorem dX8_init_568 : decode cX8_init 568 = .ok (.bipush 111, 2) := by decide +kernel
theorem dX8_init_570 : decode cX8_init 570 = .ok (.iastore, 1) := by decide +kernel
theorem dX8_init_571 : decode cX8_init 571 = .ok (.dup, 1) := by decide +kernel
theorem dX8_init_572 : decode cX8_init 572 = .ok (.bipush 93, 2) := by decide +kernel
theorem dX8_init_574 : decode cX8_init 574 = .ok (.bipush 116, 2) := by decide +kernel
theorem dX8_init_576 : decode cX8_init 576 = .ok (.iastore, 1) := by decide +kernel
theorem dX8_init_577 : decode cX8_init 577 = .ok (.dup, 1) := by decide +kernel
theorem dX8_init_578 : decode cX8_init 578 = .ok (.bipush 94, 2) := by decide +kernel
theorem dX8_init_580 : decode cX8_init 580 = .ok (.bipush 32, 2) := by decide +kernel
theorem dX8_init_582 : decode cX8_init 582 = .ok (.iastore, 1) := by decide +kernel
theorem dX8_init_583 : decode cX8_init 583 = .ok (.dup, 1) := by decide +kernel
theorem dX8_init_584 : decode cX8_init 584 = .ok (.bipush 95, 2) := by decide +kernel
theorem dX8_init_586 : decode cX8_init 586 = .ok (.bipush 108, 2) := by decide +kernel
theorem dX8_init_588 : decode cX8_init 588 = .ok (.iastore, 1) := by decide +kernel
theorem dX8_init_589 : decode cX8_init 589 = .ok (.dup, 1) := by decide +kernel
theorem dX8_init_590 : decode cX8_init 590 = .ok (.bipush 96, 2) := by decide +kernel
theorem dX8_init_592 : decode cX8_init 592 = .ok (.bipush 105, 2) := by decide +kernel
theorem dX8_init_594 : decode cX8_init 594 = .ok (.iastore, 1) := by decide +kernel
theorem dX8_init_595 : decode cX8_init 595 = .ok (.dup, 1) := by decide +kernel
theorem dX8_init_596 : decode cX8_init 596 = .ok (.bipush 97, 2) := by decide +kernel
theorem dX8_init_598 : decode cX8_init 598 = .ok (.bipush 101, 2) := by decide +kernel
theorem dX8_init_600 : decode cX8_init 600 = .ok (.iastore, 1) := by decide +kernel
theorem dX8_init_601 : decode cX8_init 601 = .ok (.dup, 1) := by decide +kernel
theorem dX8_init_602 : decode cX8_init 602 = .ok (.bipush 98, 2) := by decide +kernel
theorem dX8_init_604 : decode cX8_init 604 = .ok (.bipush 115, 2) := by decide +kernel
theorem dX8_init_606 : decode cX8_init 606 = .ok (.iastore, 1) := by decide +kernel
theorem dX8_init_607 : decode cX8_init 607 = .ok (.dup, 1) := by decide +kernel
theorem dX8_init_608 : decode cX8_init 608 = .ok (.bipush 99, 2) := by decide +kernel
theorem dX8_init_610 : decode cX8_init 610 = .ok (.bipush 32, 2) := by decide +kernel
theorem dX8_init_612 : decode cX8_init 612 = .ok (.iastore, 1) := by decide +kernel
theorem dX8_init_613 : decode cX8_init 613 = .ok (.dup, 1) := by decide +kernel
theorem dX8_init_614 : decode cX8_init 614 = .ok (.bipush 100, 2) := by decide +kernel
theorem dX8_init_616 : decode cX8_init 616 = .ok (.bipush 99, 2) := by decide +kernel
theorem dX8_init_618 : decode cX8_init 618 = .ok (.iastore, 1) := by decide +kernel
theorem dX8_init_619 : decode cX8_init 619 = .ok (.dup, 1) := by decide +kernel
theorem dX8_init_620 : decode cX8_init 620 = .ok (.bipush 101, 2) := by decide +kernel
theorem dX8_init_622 : decode cX8_init 622 = .ok (.bipush 97, 2) := by decide +kernel
theorem dX8_init_624 : decode cX8_init 624 = .ok (.iastore, 1) := by decide +kernel
theorem dX8_init_625 : decode cX8_init 625 = .ok (.dup, 1) := by decide +kernel
theorem dX8_init_626 : decode cX8_init 626 = .ok (.bipush 102, 2) := by decide +kernel
theorem dX8_init_628 : decode cX8_init 628 = .ok (.bipush 114, 2) := by decide +kernel
theorem dX8_init_630 : decode cX8_init 630 = .ok (.iastore, 1) := by decide +kernel
theorem dX8_init_631 : decode cX8_init 631 = .ok (.dup, 1) := by decide +kernel
theorem dX8_init_632 : decode cX8_init 632 = .ok (.bipush 103, 2) := by decide +kernel
theorem dX8_init_634 : decode cX8_init 634 = .ok (.bipush 116, 2) := by decide +kernel
theorem dX8_init_636 : decode cX8_init 636 = .ok (.iastore, 1) := by decide +kernel
theorem dX8_init_637 : decode cX8_init 637 = .ok (.dup, 1) := by decide +kernel
theorem dX8_init_638 : decode cX8_init 638 = .ok (.bipush 104, 2) := by decide +kernel
theorem dX8_init_640 : decode cX8_init 640 = .ok (.bipush 115, 2) := by decide +kernel
theorem dX8_init_642 : decode cX8_init 642 = .ok (.iastore, 1) := by decide +kernel
theorem dX8_init_643 : decode cX8_init 643 = .ok (.dup, 1) := by decide +kernel
theorem dX8_init_644 : decode cX8_init 644 = .ok (.bipush 105, 2) := by decide +kernel
theorem dX8_init_646 : decode cX8_init 646 = .ok (.bipush 32, 2) := by decide +kernel
theorem dX8_init_648 : decode cX8_init 648 = .ok (.iastore, 1) := by decide +kernel
theorem dX8_init_649 : decode cX8_init 649 = .ok (.dup, 1) := by decide +kernel
theorem dX8_init_650 : decode cX8_init 650 = .ok (.bipush 106, 2) := by decide +kernel
theorem dX8_init_652 : decode cX8_init 652 = .ok (.bipush 104, 2) := by decide +kernel
theorem dX8_init_654 : decode cX8_init 654 = .ok (.iastore, 1) := by decide +kernel
theorem dX8_init_655 : decode cX8_init 655 = .ok (.dup, 1) := by decide +kernel
theorem dX8_init_656 : decode cX8_init 656 = .ok (.bipush 107, 2) := by decide +kernel
theorem dX8_init_658 : decode cX8_init 658 = .ok (.bipush 105, 2) := by decide +kernel
theorem dX8_init_660 : decode cX8_init 660 = .ok (.iastore, 1) := by decide +kernel
theorem dX8_init_661 : decode cX8_init 661 = .ok (.dup, 1) := by decide +kernel
theorem dX8_init_662 : decode cX8_init 662 = .ok (.bipush 108, 2) := by decide +kernel
theorem dX8_init_664 : decode cX8_init 664 = .ok (.bipush 108, 2) := by decide +kernel
theorem dX8_init_666 : decode cX8_init 666 = .ok (.iastore, 1) := by decide +kernel
theorem dX8_init_667 : decode cX8_init 667 = .ok (.dup, 1) := by decide +kernel
theorem dX8_init_668 : decode cX8_init 668 = .ok (.bipush 109, 2) := by decide +kernel
theorem dX8_init_670 : decode cX8_init 670 = .ok (.bipush 108, 2) := by decide +kernel
theorem dX8_init_672 : decode cX8_init 672 = .ok (.iastore, 1) := by decide +kernel
theorem dX8_init_673 : decode cX8_init 673 = .ok (.dup, 1) := by decide +kernel
theorem dX8_init_674 : decode cX8_init 674 = .ok (.bipush 110, 2) := by decide +kernel
theorem dX8_init_676 : decode cX8_init 676 = .ok (.bipush 32, 2) := by decide +kernel
theorem dX8_init_678 : decode cX8_init 678 = .ok (.iastore, 1) := by decide +kernel
theorem dX8_init_679 : decode cX8_init 679 = .ok (.dup, 1) := by decide +kernel
theorem dX8_init_680 : decode cX8_init 680 = .ok (.bipush 111, 2) := by decide +kernel
theorem dX8_init_682 : decode cX8_init 682 = .ok (.bipush 104, 2) := by decide +kernel
theorem dX8_init_684 : decode cX8_init 684 = .ok (.iastore, 1) := by decide +kernel
theorem dX8_init_685 : decode cX8_init 685 = .ok (.dup, 1) := by decide +kernel
theorem dX8_init_686 : decode cX8_init 686 = .ok (.bipush 112, 2) := by decide +kernel
theorem dX8_init_688 : decode cX8_init 688 = .ok (.bipush 111, 2) := by decide +kernel
theorem dX8_init_690 : decode cX8_init 690 = .ok (.iastore, 1) := by decide +kernel
theorem dX8_init_691 : decode cX8_init 691 = .ok (.dup, 1) := by decide +kernel
theorem dX8_init_692 : decode cX8_init 692 = .ok (.bipush 113, 2) := by decide +kernel
theorem dX8_init_694 : decode cX8_init 694 = .ok (.bipush 117, 2) := by decide +kernel
theorem dX8_init_696 : decode cX8_init 696 = .ok (.iastore, 1) := by decide +kernel
theorem dX8_init_697 : decode cX8_init 697 = .ok (.dup, 1) := by decide +kernel
theorem dX8_init_698 : decode cX8_init 698 = .ok (.bipush 114, 2) := by decide +kernel
theorem dX8_init_700 : decode cX8_init 700 = .ok (.bipush 114, 2) := by decide +kernel
theorem dX8_init_702 : decode cX8_init 702 = .ok (.iastore, 1) := by decide +kernel
theorem dX8_init_703 : decode cX8_init 703 = .ok (.dup, 1) := by decide +kernel
theorem dX8_init_704 : decode cX8_init 704 = .ok (.bipush 115, 2) := by decide +kernel
theorem dX8_init_706 : decode cX8_init 706 = .ok (.bipush 32, 2) := by decide +kernel
theorem dX8_init_708 : decode cX8_init 708 = .ok (.iastore, 1) := by decide +kernel
theorem dX8_init_709 : decode cX8_init 709 = .ok (.dup, 1) := by decide +kernel
theorem dX8_init_710 : decode cX8_init 710 = .ok (.bipush 116, 2) := by decide +kernel
theorem dX8_init_712 : decode cX8_init 712 = .ok (.bipush 103, 2) := by decide +kernel
theorem dX8_init_714 : decode cX8_init 714 = .ok (.iastore, 1) := by decide +kernel
theorem dX8_init_715 : decode cX8_init 715 = .ok (.dup, 1) := by decide +kernel
theorem dX8_init_716 : decode cX8_init 716 = .ok (.bipush 117, 2) := by decide +kernel
theorem dX8_init_718 : decode cX8_init 718 = .ok (.bipush 111, 2) := by decide +kernel
theorem dX8_init_720 : decode cX8_init 720 = .ok (.iastore, 1) := by decide +kernel
theorem dX8_init_721 : decode cX8_init 721 = .ok (.dup, 1) := by decide +kernel
theorem dX8_init_722 : decode cX8_init 722 = .ok (.bipush 118, 2) := by decide +kernel
theorem dX8_init_724 : decode cX8_init 724 = .ok (.bipush 116, 2) := by decide +kernel
theorem dX8_init_726 : decode cX8_init 726 = .ok (.iastore, 1) := by decide +kernel
theorem dX8_init_727 : decode cX8_init 727 = .ok (.dup, 1) := by decide +kernel
theorem dX8_init_728 : decode cX8_init 728 = .ok (.bipush 119, 2) := by decide +kernel
theorem dX8_init_730 : decode cX8_init 730 = .ok (.bipush 32, 2) := by decide +kernel
theorem dX8_init_732 : decode cX8_init 732 = .ok (.iastore, 1) := by decide +kernel
theorem dX8_init_733 : decode cX8_init 733 = .ok (.dup, 1) := by decide +kernel
theorem dX8_init_734 : decode cX8_init 734 = .ok (.bipush 120, 2) := by decide +kernel
theorem dX8_init_736 : decode cX8_init 736 = .ok (.bipush 119, 2) := by decide +kernel
theorem dX8_init_738 : decode cX8_init 738 = .ok (.iastore, 1) := by decide +kernel
theorem dX8_init_739 : decode cX8_init 739 = .ok (.dup, 1) := by decide +kernel
theorem dX8_init_740 : decode cX8_init 740 = .ok (.bipush 121, 2) := by decide +kernel
theorem dX8_init_742 : decode cX8_init 742 = .ok (.bipush 97, 2) := by decide +kernel
theorem dX8_init_744 : decode cX8_init 744 = .ok (.iastore, 1) := by decide +kernel
theorem dX8_init_745 : decode cX8_init 745 = .ok (.dup, 1) := by decide +kernel
theorem dX8_init_746 : decode cX8_init 746 = .ok (.bipush 122, 2) := by decide +kernel
theorem dX8_init_748 : decode cX8_init 748 = .ok (.bipush 110, 2) := by decide +kernel
theorem dX8_init_750 : decode cX8_init 750 = .ok (.iastore, 1) := by decide +kernel
theorem dX8_init_751 : decode cX8_init 751 = .ok (.dup, 1) := by decide +kernel
theorem dX8_init_752 : decode cX8_init 752 = .ok (.bipush 123, 2) := by decide +kernel
theorem dX8_init_754 : decode cX8_init 754 = .ok (.bipush 116, 2) := by decide +kernel
theorem dX8_init_756 : decode cX8_init 756 = .ok (.iastore, 1) := by decide +kernel
theorem dX8_init_757 : decode cX8_init 757 = .ok (.dup, 1) := by decide +kernel
theorem dX8_init_758 : decode cX8_init 758 = .ok (.bipush 124, 2) := by decide +kernel
theorem dX8_init_760 : decode cX8_init 760 = .ok (.bipush 115, 2) := by decide +kernel
theorem dX8_init_762 : decode cX8_init 762 = .ok (.iastore, 1) := by decide +kernel
theorem dX8_init_763 : decode cX8_init 763 = .ok (.dup, 1) := by decide +kernel
theorem dX8_init_764 : decode cX8_init 764 = .ok (.bipush 125, 2) := by decide +kernel
theorem dX8_init_766 : decode cX8_init 766 = .ok (.bipush 32, 2) := by decide +kernel
theorem dX8_init_768 : decode cX8_init 768 = .ok (.iastore, 1) := by decide +kernel
theorem dX8_init_769 : decode cX8_init 769 = .ok (.dup, 1) := by decide +kernel
theorem dX8_init_770 : decode cX8_init 770 = .ok (.bipush 126, 2) := by decide +kernel
theorem dX8_init_772 : decode cX8_init 772 = .ok (.bipush 115, 2) := by decide +kernel
theorem dX8_init_774 : decode cX8_init 774 = .ok (.iastore, 1) := by decide +kernel
theorem dX8_init_775 : decode cX8_init 775 = .ok (.dup, 1) := by decide +kernel
theorem dX8_init_776 : decode cX8_init 776 = .ok (.bipush 127, 2) := by decide +kernel
theorem dX8_init_778 : decode cX8_init 778 = .ok (.bipush 111, 2) := by decide +kernel
theorem dX8_init_780 : decode cX8_init 780 = .ok (.iastore, 1) := by decide +kernel
theorem dX8_init_781 : decode cX8_init 781 = .ok (.dup, 1) := by decide +kernel
theorem dX8_init_782 : decode cX8_init 782 = .ok (.sipush 128, 3) := by decide +kernel
theorem dX8_init_785 : decode cX8_init 785 = .ok (.bipush 114, 2) := by decide +kernel
theorem dX8_init_787 : decode cX8_init 787 = .ok (.iastore, 1) := by decide +kernel
theorem dX8_init_788 : decode cX8_init 788 = .ok (.dup, 1) := by decide +kernel
theorem dX8_init_789 : decode cX8_init 789 = .ok (.sipush 129, 3) := by decide +kernel
theorem dX8_init_792 : decode cX8_init 792 = .ok (.bipush 116, 2) := by decide +kernel
theorem dX8_init_794 : decode cX8_init 794 = .ok (.iastore, 1) := by decide +kernel
theorem dX8_init_795 : decode cX8_init 795 = .ok (.dup, 1) := by decide +kernel
theorem dX8_init_796 : decode cX8_init 796 = .ok (.sipush 130, 3) := by decide +kernel
theorem dX8_init_799 : decode cX8_init 799 = .ok (.bipush 32, 2) := by decide +kernel
theorem dX8_init_801 : decode cX8_init 801 = .ok (.iastore, 1) := by decide +kernel
theorem dX8_init_802 : decode cX8_init 802 = .ok (.putfield 13, 3) := by decide +kernel
theorem dX8_init_805 : decode cX8_init 805 = .ok (.aload_n 0, 1) := by decide +kernel
theorem dX8_init_806 : decode cX8_init 806 = .ok (.iconst (-1), 1) := by decide +kernel
theorem dX8_init_807 : decode cX8_init 807 = .ok (.putfield 16, 3) := by decide +kernel
theorem dX8_init_810 : decode cX8_init 810 = .ok (.aload_n 0, 1) := by decide +kernel
theorem dX8_init_811 : decode cX8_init 811 = .ok (.iconst 4, 1) := by decide +kernel
theorem dX8_init_812 : decode cX8_init 812 = .ok (.newarray .boolean, 2) := by decide +kernel
theorem dX8_init_814 : decode cX8_init 814 = .ok (.putfield 20, 3) := by decide +kernel
theorem dX8_init_817 : decode cX8_init 817 = .ok (.aload_n 0, 1) := by decide +kernel
theorem dX8_init_818 : decode cX8_init 818 = .ok (.bipush 10, 2) := by decide +kernel
theorem dX8_init_820 : decode cX8_init 820 = .ok (.newarray .int, 2) := by decide +kernel
theorem dX8_init_822 : decode cX8_init 822 = .ok (.putfield 24, 3) := by decide +kernel
theorem dX8_init_825 : decode cX8_init 825 = .ok (.aload_n 0, 1) := by decide +kernel
theorem dX8_init_826 : decode cX8_init 826 = .ok (.bipush 16, 2) := by decide +kernel
theorem dX8_init_828 : decode cX8_init 828 = .ok (.newarray .int, 2) := by decide +kernel
theorem dX8_init_830 : decode cX8_init 830 = .ok (.putfield 27, 3) := by decide +kernel
theorem dX8_init_833 : decode cX8_init 833 = .ok (.aload_n 0, 1) := by decide +kernel
theorem dX8_init_834 : decode cX8_init 834 = .ok (.bipush 8, 2) := by decide +kernel
theorem dX8_init_836 : decode cX8_init 836 = .ok (.newarray .int, 2) := by decide +kernel
theorem dX8_init_838 : decode cX8_init 838 = .ok (.putfield 30, 3) := by decide +kernel
theorem dX8_init_841 : decode cX8_init 841 = .ok (.aload_n 0, 1) := by decide +kernel
theorem dX8_init_842 : decode cX8_init 842 = .ok (.bipush 8, 2) := by decide +kernel
theorem dX8_init_844 : decode cX8_init 844 = .ok (.newarray .int, 2) := by decide +kernel
theorem dX8_init_846 : decode cX8_init 846 = .ok (.putfield 33, 3) := by decide +kernel
theorem dX8_init_849 : decode cX8_init 849 = .ok (.aload_n 0, 1) := by decide +kernel
theorem dX8_init_850 : decode cX8_init 850 = .ok (.bipush 8, 2) := by decide +kernel
theorem dX8_init_852 : decode cX8_init 852 = .ok (.newarray .int, 2) := by decide +kernel
theorem dX8_init_854 : decode cX8_init 854 = .ok (.putfield 36, 3) := by decide +kernel
theorem dX8_init_857 : decode cX8_init 857 = .ok (.aload_n 0, 1) := by decide +kernel
theorem dX8_init_858 : decode cX8_init 858 = .ok (.bipush 8, 2) := by decide +kernel
theorem dX8_init_860 : decode cX8_init 860 = .ok (.newarray .int, 2) := by decide +kernel
theorem dX8_init_862 : decode cX8_init 862 = .ok (.putfield 39, 3) := by decide +kernel
theorem dX8_init_865 : decode cX8_init 865 = .ok (.aload_n 0, 1) := by decide +kernel
theorem dX8_init_866 : decode cX8_init 866 = .ok (.bipush 12, 2) := by decide +kernel
theorem dX8_init_868 : decode cX8_init 868 = .ok (.newarray .int, 2) := by decide +kernel
theorem dX8_init_870 : decode cX8_init 870 = .ok (.putfield 42, 3) := by decide +kernel
theorem dX8_init_873 : decode cX8_init 873 = .ok (.aload_n 0, 1) := by decide +kernel
theorem dX8_init_874 : decode cX8_init 874 = .ok (.bipush 12, 2) := by decide +kernel
theorem dX8_init_876 : decode cX8_init 876 = .ok (.newarray .int, 2) := by decide +kernel
theorem dX8_init_878 : decode cX8_init 878 = .ok (.putfield 45, 3) := by decide +kernel
theorem dX8_init_881 : decode cX8_init 881 = .ok (.aload_n 0, 1) := by decide +kernel
theorem dX8_init_882 : decode cX8_init 882 = .ok (.bipush 12, 2) := by decide +kernel
theorem dX8_init_884 : decode cX8_init 884 = .ok (.newarray .int, 2) := by decide +kernel
theorem dX8_init_886 : decode cX8_init 886 = .ok (.putfield 48, 3) := by decide +kernel
theorem dX8_init_889 : decode cX8_init 889 = .ok (.aload_n 0, 1) := by decide +kernel
theorem dX8_init_890 : decode cX8_init 890 = .ok (.bipush 8, 2) := by decide +kernel
theorem dX8_init_892 : decode cX8_init 892 = .ok (.newarray .int, 2) := by decide +kernel
theorem dX8_init_894 : decode cX8_init 894 = .ok (.putfield 51, 3) := by decide +kernel
theorem dX8_init_897 : decode cX8_init 897 = .ok (.aload_n 0, 1) := by decide +kernel
theorem dX8_init_898 : decode cX8_init 898 = .ok (.bipush 8, 2) := by decide +kernel
theorem dX8_init_900 : decode cX8_init 900 = .ok (.newarray .boolean, 2) := by decide +kernel
theorem dX8_init_902 : decode cX8_init 902 = .ok (.putfield 54, 3) := by decide +kernel
theorem dX8_init_905 : decode cX8_init 905 = .ok (.aload_n 0, 1) := by decide +kernel
theorem dX8_init_906 : decode cX8_init 906 = .ok (.bipush 8, 2) := by decide +kernel
theorem dX8_init_908 : decode cX8_init 908 = .ok (.newarray .int, 2) := by decide +kernel
theorem dX8_init_910 : decode cX8_init 910 = .ok (.putfield 57, 3) := by decide +kernel
theorem dX8_init_913 : decode cX8_init 913 = .ok (.aload_n 0, 1) := by decide +kernel
theorem dX8_init_914 : decode cX8_init 914 = .ok (.bipush 8, 2) := by decide +kernel
theorem dX8_init_916 : decode cX8_init 916 = .ok (.newarray .int, 2) := by decide +kernel
theorem dX8_init_918 : decode cX8_init 918 = .ok (.putfield 60, 3) := by decide +kernel
theorem dX8_init_921 : decode cX8_init 921 = .ok (.aload_n 0, 1) := by decide +kernel
theorem dX8_init_922 : decode cX8_init 922 = .ok (.sipush 128, 3) := by decide +kernel
theorem dX8_init_925 : decode cX8_init 925 = .ok (.newarray .int, 2) := by decide +kernel
theorem dX8_init_927 : decode cX8_init 927 = .ok (.putfield 63, 3) := by decide +kernel
theorem dX8_init_930 : decode cX8_init 930 = .ok (.aload_n 0, 1) := by decide +kernel
theorem dX8_init_931 : decode cX8_init 931 = .ok (.sipush 128, 3) := by decide +kernel
theorem dX8_init_934 : decode cX8_init 934 = .ok (.newarray .int, 2) := by decide +kernel
theorem dX8_init_936 : decode cX8_init 936 = .ok (.putfield 66, 3) := by decide +kernel
theorem dX8_init_939 : decode cX8_init 939 = .ok (.aload_n 0, 1) := by decide +kernel
theorem dX8_init_940 : decode cX8_init 940 = .ok (.sipush 128, 3) := by decide +kernel
theorem dX8_init_943 : decode cX8_init 943 = .ok (.newarray .int, 2) := by decide +kernel
theorem dX8_init_945 : decode cX8_init 945 = .ok (.putfield 69, 3) := by decide +kernel
theorem dX8_init_948 : decode cX8_init 948 = .ok (.aload_n 0, 1) := by decide +kernel
theorem dX8_init_949 : decode cX8_init 949 = .ok (.bipush 96, 2) := by decide +kernel
theorem dX8_init_951 : decode cX8_init 951 = .ok (.newarray .int, 2) := by decide +kernel
theorem dX8_init_953 : decode cX8_init 953 = .ok (.putfield 72, 3) := by decide +kernel
theorem dX8_init_956 : decode cX8_init 956 = .ok (.aload_n 0, 1) := by decide +kernel
theorem dX8_init_957 : decode cX8_init 957 = .ok (.bipush 96, 2) := by decide +kernel
theorem dX8_init_959 : decode cX8_init 959 = .ok (.newarray .int, 2) := by decide +kernel
theorem dX8_init_961 : decode cX8_init 961 = .ok (.putfield 75, 3) := by decide +kernel
theorem dX8_init_964 : decode cX8_init 964 = .ok (.aload_n 0, 1) := by decide +kernel
theorem dX8_init_965 : decode cX8_init 965 = .ok (.bipush 7, 2) := by decide +kernel
theorem dX8_init_967 : decode cX8_init 967 = .ok (.newarray .long, 2) := by decide +kernel
theorem dX8_init_969 : decode cX8_init 969 = .ok (.putfield 78, 3) := by decide +kernel
theorem dX8_init_972 : decode cX8_init 972 = .ok (.aload_n 0, 1) := by decide +kernel
theorem dX8_init_973 : decode cX8_init 973 = .ok (.bipush 64, 2) := by decide +kernel
theorem dX8_init_975 : decode cX8_init 975 = .ok (.newarray .long, 2) := by decide +kernel
theorem dX8_init_977 : decode cX8_init 977 = .ok (.putfield 82, 3) := by decide +kernel
theorem dX8_init_980 : decode cX8_init 980 = .ok (.aload_n 0, 1) := by decide +kernel
theorem dX8_init_981 : decode cX8_init 981 = .ok (.bipush 16, 2) := by decide +kernel
theorem dX8_init_983 : decode cX8_init 983 = .ok (.newarray .int, 2) := by decide +kernel
theorem dX8_init_985 : decode cX8_init 985 = .ok (.putfield 85, 3) := by decide +kernel
theorem dX8_init_988 : decode cX8_init 988 = .ok (.aload_n 0, 1) := by decide +kernel
theorem dX8_init_989 : decode cX8_init 989 = .ok (.bipush 16, 2) := by decide +kernel
theorem dX8_init_991 : decode cX8_init 991 = .ok (.newarray .int, 2) := by decide +kernel
theorem dX8_init_993 : decode cX8_init 993 = .ok (.putfield 88, 3) := by decide +kernel
theorem dX8_init_996 : decode cX8_init 996 = .ok (.aload_n 0, 1) := by decide +kernel
theorem dX8_init_997 : decode cX8_init 997 = .ok (.bipush 8, 2) := by decide +kernel
theorem dX8_init_999 : decode cX8_init 999 = .ok (.newarray .int, 2) := by decide +kernel
theorem dX8_init_1001 : decode cX8_init 1001 = .ok (.putfield 91, 3) := by decide +kernel
theorem dX8_init_1004 : decode cX8_init 1004 = .ok (.aload_n 0, 1) := by decide +kernel
theorem dX8_init_1005 : decode cX8_init 1005 = .ok (.bipush 8, 2) := by decide +kernel
theorem dX8_init_1007 : decode cX8_init 1007 = .ok (.newarray .int, 2) := by decide +kernel
theorem dX8_init_1009 : decode cX8_init 1009 = .ok (.putfield 94, 3) := by decide +kernel
theorem dX8_init_1012 : decode cX8_init 1012 = .ok (.aload_n 0, 1) := by decide +kernel
theorem dX8_init_1013 : decode cX8_init 1013 = .ok (.bipush 8, 2) := by decide +kernel
theorem dX8_init_1015 : decode cX8_init 1015 = .ok (.newarray .int, 2) := by decide +kernel
theorem dX8_init_1017 : decode cX8_init 1017 = .ok (.putfield 97, 3) := by decide +kernel
theorem dX8_init_1020 : decode cX8_init 1020 = .ok (.aload_n 0, 1) := by decide +kernel
theorem dX8_init_1021 : decode cX8_init 1021 = .ok (.bipush 8, 2) := by decide +kernel
theorem dX8_init_1023 : decode cX8_init 1023 = .ok (.newarray .int, 2) := by decide +kernel
theorem dX8_init_1025 : decode cX8_init 1025 = .ok (.putfield 100, 3) := by decide +kernel
theorem dX8_init_1028 : decode cX8_init 1028 = .ok (.aload_n 0, 1) := by decide +kernel
theorem dX8_init_1029 : decode cX8_init 1029 = .ok (.bipush 8, 2) := by decide +kernel
theorem dX8_init_1031 : decode cX8_init 1031 = .ok (.newarray .int, 2) := by decide +kernel
theorem dX8_init_1033 : decode cX8_init 1033 = .ok (.putfield 103, 3) := by decide +kernel
theorem dX8_init_1036 : decode cX8_init 1036 = .ok (.aload_n 0, 1) := by decide +kernel
theorem dX8_init_1037 : decode cX8_init 1037 = .ok (.bipush 12, 2) := by decide +kernel
theorem dX8_init_1039 : decode cX8_init 1039 = .ok (.newarray .int, 2) := by decide +kernel
theorem dX8_init_1041 : decode cX8_init 1041 = .ok (.putfield 106, 3) := by decide +kernel
theorem dX8_init_1044 : decode cX8_init 1044 = .ok (.aload_n 0, 1) := by decide +kernel
theorem dX8_init_1045 : decode cX8_init 1045 = .ok (.iconst 2, 1) := by decide +kernel
theorem dX8_init_1046 : decode cX8_init 1046 = .ok (.newarray .int, 2) := by decide +kernel
theorem dX8_init_1048 : decode cX8_init 1048 = .ok (.putfield 109, 3) := by decide +kernel
theorem dX8_init_1051 : decode cX8_init 1051 = .ok (.aload_n 0, 1) := by decide +kernel
theorem dX8_init_1052 : decode cX8_init 1052 = .ok (.iconst 2, 1) := by decide +kernel
theorem dX8_init_1053 : decode cX8_init 1053 = .ok (.newarray .int, 2) := by decide +kernel
theorem dX8_init_1055 : decode cX8_init 1055 = .ok (.putfield 112, 3) := by decide +kernel
theorem dX8_init_1058 : decode cX8_init 1058 = .ok (.aload_n 0, 1) := by decide +kernel
theorem dX8_init_1059 : decode cX8_init 1059 = .ok (.iconst 2, 1) := by decide +kernel
theorem dX8_init_1060 : decode cX8_init 1060 = .ok (.newarray .int, 2) := by decide +kernel
theorem dX8_init_1062 : decode cX8_init 1062 = .ok (.putfield 115, 3) := by decide +kernel
theorem dX8_init_1065 : decode cX8_init 1065 = .ok (.aload_n 0, 1) := by decide +kernel
theorem dX8_init_1066 : decode cX8_init 1066 = .ok (.iconst (-1), 1) := by decide +kernel
theorem dX8_init_1067 : decode cX8_init 1067 = .ok (.putfield 118, 3) := by decide +kernel
theorem dX8_init_1070 : decode cX8_init 1070 = .ok (.aload_n 0, 1) := by decide +kernel
theorem dX8_init_1071 : decode cX8_init 1071 = .ok (.bipush 6, 2) := by decide +kernel
theorem dX8_init_1073 : decode cX8_init 1073 = .ok (.newarray .int, 2) := by decide +kernel
theorem dX8_init_1075 : decode cX8_init 1075 = .ok (.putfield 121, 3) := by decide +kernel
theorem dX8_init_1078 : decode cX8_init 1078 = .ok (.aload_n 0, 1) := by decide +kernel
theorem dX8_init_1079 : decode cX8_init 1079 = .ok (.bipush 16, 2) := by decide +kernel
theorem dX8_init_1081 : decode cX8_init 1081 = .ok (.newarray .int, 2) := by decide +kernel
theorem dX8_init_1083 : decode cX8_init 1083 = .ok (.putfield 124, 3) := by decide +kernel
theorem dX8_init_1086 : decode cX8_init 1086 = .ok (.aload_n 0, 1) := by decide +kernel
theorem dX8_init_1087 : decode cX8_init 1087 = .ok (.bipush 16, 2) := by decide +kernel
theorem dX8_init_1089 : decode cX8_init 1089 = .ok (.newarray .int, 2) := by decide +kernel
theorem dX8_init_1091 : decode cX8_init 1091 = .ok (.putfield 127, 3) := by decide +kernel
theorem dX8_init_1094 : decode cX8_init 1094 = .ok (.aload_n 0, 1) := by decide +kernel
theorem dX8_init_1095 : decode cX8_init 1095 = .ok (.iconst (-1), 1) := by decide +kernel
theorem dX8_init_1096 : decode cX8_init 1096 = .ok (.putfield 130, 3) := by decide +kernel
theorem dX8_init_1099 : decode cX8_init 1099 = .ok (.aload_n 0, 1) := by decide +kernel
theorem dX8_init_1100 : decode cX8_init 1100 = .ok (.bipush 72, 2) := by decide +kernel
theorem dX8_init_1102 : decode cX8_init 1102 = .ok (.newarray .int, 2) := by decide +kernel
theorem dX8_init_1104 : decode cX8_init 1104 = .ok (.putfield 133, 3) := by decide +kernel
theorem dX8_init_1107 : decode cX8_init 1107 = .ok (.aload_n 0, 1) := by decide +kernel
theorem dX8_init_1108 : decode cX8_init 1108 = .ok (.bipush 24, 2) := by decide +kernel
theorem dX8_init_1110 : decode cX8_init 1110 = .ok (.newarray .boolean, 2) := by decide +kernel
theorem dX8_init_1112 : decode cX8_init 1112 = .ok (.putfield 136, 3) := by decide +kernel
theorem dX8_init_1115 : decode cX8_init 1115 = .ok (.aload_n 0, 1) := by decide +kernel
theorem dX8_init_1116 : decode cX8_init 1116 = .ok (.sipush 340, 3) := by decide +kernel
theorem dX8_init_1119 : decode cX8_init 1119 = .ok (.newarray .int, 2) := by decide +kernel
theorem dX8_init_1121 : decode cX8_init 1121 = .ok (.putfield 139, 3) := by decide +kernel
theorem dX8_init_1124 : decode cX8_init 1124 = .ok (.aload_n 0, 1) := by decide +kernel
theorem dX8_init_1125 : decode cX8_init 1125 = .ok (.bipush 17, 2) := by decide +kernel
theorem dX8_init_1127 : decode cX8_init 1127 = .ok (.newarray .int, 2) := by decide +kernel
theorem dX8_init_1129 : decode cX8_init 1129 = .ok (.putfield 142, 3) := by decide +kernel
theorem dX8_init_1132 : decode cX8_init 1132 = .ok (.aload_n 0, 1) := by decide +kernel
theorem dX8_init_1133 : decode cX8_init 1133 = .ok (.bipush 8, 2) := by decide +kernel
theorem dX8_init_1135 : decode cX8_init 1135 = .ok (.newarray .int, 2) := by decide +kernel
theorem dX8_init_1137 : decode cX8_init 1137 = .ok (.putfield 145, 3) := by decide +kernel
theorem dX8_init_1140 : decode cX8_init 1140 = .ok (.aload_n 0, 1) := by decide +kernel
theorem dX8_init_1141 : decode cX8_init 1141 = .ok (.iconst 4, 1) := by decide +kernel
theorem dX8_init_1142 : decode cX8_init 1142 = .ok (.newarray .int, 2) := by decide +kernel
theorem dX8_init_1144 : decode cX8_init 1144 = .ok (.putfield 148, 3) := by decide +kernel
theorem dX8_init_1147 : decode cX8_init 1147 = .ok (.aload_n 0, 1) := by decide +kernel
theorem dX8_init_1148 : decode cX8_init 1148 = .ok (.iconst 4, 1) := by decide +kernel
theorem dX8_init_1149 : decode cX8_init 1149 = .ok (.newarray .int, 2) := by decide +kernel
theorem dX8_init_1151 : decode cX8_init 1151 = .ok (.putfield 151, 3) := by decide +kernel
theorem dX8_init_1154 : decode cX8_init 1154 = .ok (.aload_n 0, 1) := by decide +kernel
theorem dX8_init_1155 : decode cX8_init 1155 = .ok (.bipush 6, 2) := by decide +kernel
theorem dX8_init_1157 : decode cX8_init 1157 = .ok (.newarray .int, 2) := by decide +kernel
theorem dX8_init_1159 : decode cX8_init 1159 = .ok (.putfield 154, 3) := by decide +kernel
theorem dX8_init_1162 : decode cX8_init 1162 = .ok (.aload_n 0, 1) := by decide +kernel
theorem dX8_init_1163 : decode cX8_init 1163 = .ok (.invokevirtual 157, 3) := by decide +kernel
theorem dX8_init_1166 : decode cX8_init 1166 = .ok (.aload_n 0, 1) := by decide +kernel
theorem dX8_init_1167 : decode cX8_init 1167 = .ok (.invokevirtual 160, 3) := by decide +kernel
theorem dX8_init_1170 : decode cX8_init 1170 = .ok (.return_, 1) := by decide +kernel
