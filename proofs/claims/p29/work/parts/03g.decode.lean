theorem dL_law_1566 : decode cL_law 1566 = .ok (.if_icmp .le 11, 3) := by decide +kernel
theorem dL_law_1569 : decode cL_law 1569 = .ok (.iload 24, 2) := by decide +kernel
theorem dL_law_1571 : decode cL_law 1571 = .ok (.iload 23, 2) := by decide +kernel
theorem dL_law_1573 : decode cL_law 1573 = .ok (.iadd, 1) := by decide +kernel
theorem dL_law_1574 : decode cL_law 1574 = .ok (.goto 8, 3) := by decide +kernel
theorem dL_law_1577 : decode cL_law 1577 = .ok (.aload 5, 2) := by decide +kernel
theorem dL_law_1579 : decode cL_law 1579 = .ok (.iload 17, 2) := by decide +kernel
theorem dL_law_1581 : decode cL_law 1581 = .ok (.iaload, 1) := by decide +kernel
theorem dL_law_1582 : decode cL_law 1582 = .ok (.istore 28, 2) := by decide +kernel
theorem dL_law_1584 : decode cL_law 1584 = .ok (.aload_n 1, 1) := by decide +kernel
theorem dL_law_1585 : decode cL_law 1585 = .ok (.iload 16, 2) := by decide +kernel
theorem dL_law_1587 : decode cL_law 1587 = .ok (.iload 24, 2) := by decide +kernel
theorem dL_law_1589 : decode cL_law 1589 = .ok (.lload 25, 2) := by decide +kernel
theorem dL_law_1591 : decode cL_law 1591 = .ok (.iload 23, 2) := by decide +kernel
theorem dL_law_1593 : decode cL_law 1593 = .ok (.invokestatic 150, 3) := by decide +kernel
theorem dL_law_1596 : decode cL_law 1596 = .ok (.istore 21, 2) := by decide +kernel
theorem dL_law_1598 : decode cL_law 1598 = .ok (.iload 21, 2) := by decide +kernel
theorem dL_law_1600 : decode cL_law 1600 = .ok (.bipush (-9), 2) := by decide +kernel
theorem dL_law_1602 : decode cL_law 1602 = .ok (.if_icmp .ne 7, 3) := by decide +kernel
theorem dL_law_1605 : decode cL_law 1605 = .ok (.iconst 1, 1) := by decide +kernel
theorem dL_law_1606 : decode cL_law 1606 = .ok (.goto 4, 3) := by decide +kernel
theorem dL_law_1609 : decode cL_law 1609 = .ok (.iconst 0, 1) := by decide +kernel
theorem dL_law_1610 : decode cL_law 1610 = .ok (.istore 22, 2) := by decide +kernel
theorem dL_law_1612 : decode cL_law 1612 = .ok (.iload 27, 2) := by decide +kernel
theorem dL_law_1614 : decode cL_law 1614 = .ok (.ifCond .ne 28, 3) := by decide +kernel
theorem dL_law_1617 : decode cL_law 1617 = .ok (.iload 21, 2) := by decide +kernel
theorem dL_law_1619 : decode cL_law 1619 = .ok (.iload 17, 2) := by decide +kernel
theorem dL_law_1621 : decode cL_law 1621 = .ok (.ifCond .ge 8, 3) := by decide +kernel
theorem dL_law_1624 : decode cL_law 1624 = .ok (.bipush (-11), 2) := by decide +kernel
theorem dL_law_1626 : decode cL_law 1626 = .ok (.goto 5, 3) := by decide +kernel
theorem dL_law_1629 : decode cL_law 1629 = .ok (.bipush (-12), 2) := by decide +kernel
theorem dL_law_1631 : decode cL_law 1631 = .ok (.if_icmp .ne 7, 3) := by decide +kernel
theorem dL_law_1634 : decode cL_law 1634 = .ok (.iconst 1, 1) := by decide +kernel
theorem dL_law_1635 : decode cL_law 1635 = .ok (.goto 37, 3) := by decide +kernel
theorem dL_law_1638 : decode cL_law 1638 = .ok (.iconst 0, 1) := by decide +kernel
theorem dL_law_1639 : decode cL_law 1639 = .ok (.goto 33, 3) := by decide +kernel
theorem dL_law_1642 : decode cL_law 1642 = .ok (.iload 21, 2) := by decide +kernel
theorem dL_law_1644 : decode cL_law 1644 = .ok (.iload 28, 2) := by decide +kernel
theorem dL_law_1646 : decode cL_law 1646 = .ok (.if_icmp .eq 21, 3) := by decide +kernel
theorem dL_law_1649 : decode cL_law 1649 = .ok (.iload 22, 2) := by decide +kernel
theorem dL_law_1651 : decode cL_law 1651 = .ok (.ifCond .ne 16, 3) := by decide +kernel
theorem dL_law_1654 : decode cL_law 1654 = .ok (.iload 21, 2) := by decide +kernel
theorem dL_law_1656 : decode cL_law 1656 = .ok (.bipush (-13), 2) := by decide +kernel
theorem dL_law_1658 : decode cL_law 1658 = .ok (.if_icmp .ne 13, 3) := by decide +kernel
theorem dL_law_1661 : decode cL_law 1661 = .ok (.iload 20, 2) := by decide +kernel
theorem dL_law_1663 : decode cL_law 1663 = .ok (.iconst 2, 1) := by decide +kernel
theorem dL_law_1664 : decode cL_law 1664 = .ok (.if_icmp .ge 7, 3) := by decide +kernel
theorem dL_law_1667 : decode cL_law 1667 = .ok (.iconst 1, 1) := by decide +kernel
theorem dL_law_1668 : decode cL_law 1668 = .ok (.goto 4, 3) := by decide +kernel
theorem dL_law_1671 : decode cL_law 1671 = .ok (.iconst 0, 1) := by decide +kernel
theorem dL_law_1672 : decode cL_law 1672 = .ok (.istore 7, 2) := by decide +kernel
theorem dL_law_1674 : decode cL_law 1674 = .ok (.iconst 0, 1) := by decide +kernel
theorem dL_law_1675 : decode cL_law 1675 = .ok (.istore 29, 2) := by decide +kernel
theorem dL_law_1677 : decode cL_law 1677 = .ok (.iload 29, 2) := by decide +kernel
theorem dL_law_1679 : decode cL_law 1679 = .ok (.iload 23, 2) := by decide +kernel
theorem dL_law_1681 : decode cL_law 1681 = .ok (.if_icmp .ge 46, 3) := by decide +kernel
theorem dL_law_1684 : decode cL_law 1684 = .ok (.iload 27, 2) := by decide +kernel
theorem dL_law_1686 : decode cL_law 1686 = .ok (.ifCond .eq 41, 3) := by decide +kernel
theorem dL_law_1689 : decode cL_law 1689 = .ok (.iload 21, 2) := by decide +kernel
theorem dL_law_1691 : decode cL_law 1691 = .ok (.ifCond .le 36, 3) := by decide +kernel
theorem dL_law_1694 : decode cL_law 1694 = .ok (.aload 6, 2) := by decide +kernel
theorem dL_law_1696 : decode cL_law 1696 = .ok (.iload 17, 2) := by decide +kernel
theorem dL_law_1698 : decode cL_law 1698 = .ok (.iload 24, 2) := by decide +kernel
theorem dL_law_1700 : decode cL_law 1700 = .ok (.iload 29, 2) := by decide +kernel
theorem dL_law_1702 : decode cL_law 1702 = .ok (.iadd, 1) := by decide +kernel
theorem dL_law_1703 : decode cL_law 1703 = .ok (.lload 25, 2) := by decide +kernel
theorem dL_law_1705 : decode cL_law 1705 = .ok (.bipush 8, 2) := by decide +kernel
theorem dL_law_1707 : decode cL_law 1707 = .ok (.iload 29, 2) := by decide +kernel
theorem dL_law_1709 : decode cL_law 1709 = .ok (.imul, 1) := by decide +kernel
theorem dL_law_1710 : decode cL_law 1710 = .ok (.lshr, 1) := by decide +kernel
theorem dL_law_1711 : decode cL_law 1711 = .ok (.invokestatic 154, 3) := by decide +kernel
theorem dL_law_1714 : decode cL_law 1714 = .ok (.aload 5, 2) := by decide +kernel
theorem dL_law_1716 : decode cL_law 1716 = .ok (.iload 17, 2) := by decide +kernel
theorem dL_law_1718 : decode cL_law 1718 = .ok (.iload 28, 2) := by decide +kernel
theorem dL_law_1720 : decode cL_law 1720 = .ok (.iastore, 1) := by decide +kernel
theorem dL_law_1721 : decode cL_law 1721 = .ok (.iinc 29 1, 3) := by decide +kernel
theorem dL_law_1724 : decode cL_law 1724 = .ok (.goto (-47), 3) := by decide +kernel
theorem dL_law_1727 : decode cL_law 1727 = .ok (.goto 313, 3) := by decide +kernel
theorem dL_law_1730 : decode cL_law 1730 = .ok (.iload 10, 2) := by decide +kernel
theorem dL_law_1732 : decode cL_law 1732 = .ok (.bipush 19, 2) := by decide +kernel
theorem dL_law_1734 : decode cL_law 1734 = .ok (.if_icmp .ge 172, 3) := by decide +kernel
theorem dL_law_1737 : decode cL_law 1737 = .ok (.iload 11, 2) := by decide +kernel
theorem dL_law_1739 : decode cL_law 1739 = .ok (.iconst 5, 1) := by decide +kernel
theorem dL_law_1740 : decode cL_law 1740 = .ok (.idiv, 1) := by decide +kernel
theorem dL_law_1741 : decode cL_law 1741 = .ok (.bipush 66, 2) := by decide +kernel
theorem dL_law_1743 : decode cL_law 1743 = .ok (.irem, 1) := by decide +kernel
theorem dL_law_1744 : decode cL_law 1744 = .ok (.istore 23, 2) := by decide +kernel
theorem dL_law_1746 : decode cL_law 1746 = .ok (.iload 17, 2) := by decide +kernel
theorem dL_law_1748 : decode cL_law 1748 = .ok (.ifCond .lt 14, 3) := by decide +kernel
theorem dL_law_1751 : decode cL_law 1751 = .ok (.iload 23, 2) := by decide +kernel
theorem dL_law_1753 : decode cL_law 1753 = .ok (.bipush 65, 2) := by decide +kernel
theorem dL_law_1755 : decode cL_law 1755 = .ok (.if_icmp .ge 7, 3) := by decide +kernel
theorem dL_law_1758 : decode cL_law 1758 = .ok (.iconst 1, 1) := by decide +kernel
theorem dL_law_1759 : decode cL_law 1759 = .ok (.goto 4, 3) := by decide +kernel
theorem dL_law_1762 : decode cL_law 1762 = .ok (.iconst 0, 1) := by decide +kernel
theorem dL_law_1763 : decode cL_law 1763 = .ok (.istore 24, 2) := by decide +kernel
theorem dL_law_1765 : decode cL_law 1765 = .ok (.aload_n 1, 1) := by decide +kernel
theorem dL_law_1766 : decode cL_law 1766 = .ok (.iconst 4, 1) := by decide +kernel
theorem dL_law_1767 : decode cL_law 1767 = .ok (.iload 16, 2) := by decide +kernel
theorem dL_law_1769 : decode cL_law 1769 = .ok (.iload 23, 2) := by decide +kernel
theorem dL_law_1771 : decode cL_law 1771 = .ok (.iconst 0, 1) := by decide +kernel
theorem dL_law_1772 : decode cL_law 1772 = .ok (.invokestatic 85, 3) := by decide +kernel
theorem dL_law_1775 : decode cL_law 1775 = .ok (.istore 21, 2) := by decide +kernel
theorem dL_law_1777 : decode cL_law 1777 = .ok (.iload 21, 2) := by decide +kernel
theorem dL_law_1779 : decode cL_law 1779 = .ok (.bipush (-9), 2) := by decide +kernel
theorem dL_law_1781 : decode cL_law 1781 = .ok (.if_icmp .ne 7, 3) := by decide +kernel
theorem dL_law_1784 : decode cL_law 1784 = .ok (.iconst 1, 1) := by decide +kernel
theorem dL_law_1785 : decode cL_law 1785 = .ok (.goto 4, 3) := by decide +kernel
theorem dL_law_1788 : decode cL_law 1788 = .ok (.iconst 0, 1) := by decide +kernel
theorem dL_law_1789 : decode cL_law 1789 = .ok (.istore 22, 2) := by decide +kernel
theorem dL_law_1791 : decode cL_law 1791 = .ok (.iload 24, 2) := by decide +kernel
theorem dL_law_1793 : decode cL_law 1793 = .ok (.ifCond .ne 28, 3) := by decide +kernel
theorem dL_law_1796 : decode cL_law 1796 = .ok (.iload 21, 2) := by decide +kernel
theorem dL_law_1798 : decode cL_law 1798 = .ok (.iload 17, 2) := by decide +kernel
theorem dL_law_1800 : decode cL_law 1800 = .ok (.ifCond .ge 8, 3) := by decide +kernel
theorem dL_law_1803 : decode cL_law 1803 = .ok (.bipush (-11), 2) := by decide +kernel
theorem dL_law_1805 : decode cL_law 1805 = .ok (.goto 5, 3) := by decide +kernel
theorem dL_law_1808 : decode cL_law 1808 = .ok (.bipush (-12), 2) := by decide +kernel
theorem dL_law_1810 : decode cL_law 1810 = .ok (.if_icmp .ne 7, 3) := by decide +kernel
theorem dL_law_1813 : decode cL_law 1813 = .ok (.iconst 1, 1) := by decide +kernel
theorem dL_law_1814 : decode cL_law 1814 = .ok (.goto 40, 3) := by decide +kernel
theorem dL_law_1817 : decode cL_law 1817 = .ok (.iconst 0, 1) := by decide +kernel
theorem dL_law_1818 : decode cL_law 1818 = .ok (.goto 36, 3) := by decide +kernel
theorem dL_law_1821 : decode cL_law 1821 = .ok (.iload 21, 2) := by decide +kernel
theorem dL_law_1823 : decode cL_law 1823 = .ok (.aload 5, 2) := by decide +kernel
theorem dL_law_1825 : decode cL_law 1825 = .ok (.iload 17, 2) := by decide +kernel
theorem dL_law_1827 : decode cL_law 1827 = .ok (.iaload, 1) := by decide +kernel
theorem dL_law_1828 : decode cL_law 1828 = .ok (.if_icmp .eq 21, 3) := by decide +kernel
theorem dL_law_1831 : decode cL_law 1831 = .ok (.iload 22, 2) := by decide +kernel
theorem dL_law_1833 : decode cL_law 1833 = .ok (.ifCond .ne 16, 3) := by decide +kernel
theorem dL_law_1836 : decode cL_law 1836 = .ok (.iload 21, 2) := by decide +kernel
theorem dL_law_1838 : decode cL_law 1838 = .ok (.bipush (-13), 2) := by decide +kernel
theorem dL_law_1840 : decode cL_law 1840 = .ok (.if_icmp .ne 13, 3) := by decide +kernel
theorem dL_law_1843 : decode cL_law 1843 = .ok (.iload 20, 2) := by decide +kernel
theorem dL_law_1845 : decode cL_law 1845 = .ok (.iconst 2, 1) := by decide +kernel
theorem dL_law_1846 : decode cL_law 1846 = .ok (.if_icmp .ge 7, 3) := by decide +kernel
theorem dL_law_1849 : decode cL_law 1849 = .ok (.iconst 1, 1) := by decide +kernel
theorem dL_law_1850 : decode cL_law 1850 = .ok (.goto 4, 3) := by decide +kernel
theorem dL_law_1853 : decode cL_law 1853 = .ok (.iconst 0, 1) := by decide +kernel
theorem dL_law_1854 : decode cL_law 1854 = .ok (.istore 7, 2) := by decide +kernel
theorem dL_law_1856 : decode cL_law 1856 = .ok (.iload 24, 2) := by decide +kernel
theorem dL_law_1858 : decode cL_law 1858 = .ok (.ifCond .eq 45, 3) := by decide +kernel
theorem dL_law_1861 : decode cL_law 1861 = .ok (.iload 21, 2) := by decide +kernel
theorem dL_law_1863 : decode cL_law 1863 = .ok (.ifCond .lt 40, 3) := by decide +kernel
theorem dL_law_1866 : decode cL_law 1866 = .ok (.iload 23, 2) := by decide +kernel
theorem dL_law_1868 : decode cL_law 1868 = .ok (.istore 25, 2) := by decide +kernel
theorem dL_law_1870 : decode cL_law 1870 = .ok (.iload 25, 2) := by decide +kernel
theorem dL_law_1872 : decode cL_law 1872 = .ok (.aload 5, 2) := by decide +kernel
theorem dL_law_1874 : decode cL_law 1874 = .ok (.iload 17, 2) := by decide +kernel
theorem dL_law_1876 : decode cL_law 1876 = .ok (.iaload, 1) := by decide +kernel
theorem dL_law_1877 : decode cL_law 1877 = .ok (.if_icmp .ge 19, 3) := by decide +kernel
theorem dL_law_1880 : decode cL_law 1880 = .ok (.aload 6, 2) := by decide +kernel
theorem dL_law_1882 : decode cL_law 1882 = .ok (.iload 17, 2) := by decide +kernel
theorem dL_law_1884 : decode cL_law 1884 = .ok (.iload 25, 2) := by decide +kernel
theorem dL_law_1886 : decode cL_law 1886 = .ok (.lconst 0, 1) := by decide +kernel
theorem dL_law_1887 : decode cL_law 1887 = .ok (.invokestatic 154, 3) := by decide +kernel
theorem dL_law_1890 : decode cL_law 1890 = .ok (.iinc 25 1, 3) := by decide +kernel
theorem dL_law_1893 : decode cL_law 1893 = .ok (.goto (-23), 3) := by decide +kernel
theorem dL_law_1896 : decode cL_law 1896 = .ok (.aload 5, 2) := by decide +kernel
theorem dL_law_1898 : decode cL_law 1898 = .ok (.iload 17, 2) := by decide +kernel
theorem dL_law_1900 : decode cL_law 1900 = .ok (.iload 23, 2) := by decide +kernel
theorem dL_law_1902 : decode cL_law 1902 = .ok (.iastore, 1) := by decide +kernel
theorem dL_law_1903 : decode cL_law 1903 = .ok (.goto 137, 3) := by decide +kernel
theorem dL_law_1906 : decode cL_law 1906 = .ok (.iconst 0, 1) := by decide +kernel
theorem dL_law_1907 : decode cL_law 1907 = .ok (.istore 23, 2) := by decide +kernel
theorem dL_law_1909 : decode cL_law 1909 = .ok (.iconst 0, 1) := by decide +kernel
theorem dL_law_1910 : decode cL_law 1910 = .ok (.istore 24, 2) := by decide +kernel
theorem dL_law_1912 : decode cL_law 1912 = .ok (.iload 24, 2) := by decide +kernel
theorem dL_law_1914 : decode cL_law 1914 = .ok (.bipush 8, 2) := by decide +kernel
theorem dL_law_1916 : decode cL_law 1916 = .ok (.if_icmp .ge 29, 3) := by decide +kernel
theorem dL_law_1919 : decode cL_law 1919 = .ok (.iload 23, 2) := by decide +kernel
theorem dL_law_1921 : decode cL_law 1921 = .ok (.aload_n 1, 1) := by decide +kernel
theorem dL_law_1922 : decode cL_law 1922 = .ok (.iload 24, 2) := by decide +kernel
theorem dL_law_1924 : decode cL_law 1924 = .ok (.invokevirtual 69, 3) := by decide +kernel
theorem dL_law_1927 : decode cL_law 1927 = .ok (.iconst 1, 1) := by decide +kernel
theorem dL_law_1928 : decode cL_law 1928 = .ok (.if_icmp .le 7, 3) := by decide +kernel
theorem dL_law_1931 : decode cL_law 1931 = .ok (.iconst 1, 1) := by decide +kernel
theorem dL_law_1932 : decode cL_law 1932 = .ok (.goto 4, 3) := by decide +kernel
theorem dL_law_1935 : decode cL_law 1935 = .ok (.iconst 0, 1) := by decide +kernel
theorem dL_law_1936 : decode cL_law 1936 = .ok (.iadd, 1) := by decide +kernel
theorem dL_law_1937 : decode cL_law 1937 = .ok (.istore 23, 2) := by decide +kernel
theorem dL_law_1939 : decode cL_law 1939 = .ok (.iinc 24 1, 3) := by decide +kernel
theorem dL_law_1942 : decode cL_law 1942 = .ok (.goto (-30), 3) := by decide +kernel
theorem dL_law_1945 : decode cL_law 1945 = .ok (.aload_n 1, 1) := by decide +kernel
theorem dL_law_1946 : decode cL_law 1946 = .ok (.iconst 5, 1) := by decide +kernel
theorem dL_law_1947 : decode cL_law 1947 = .ok (.iload 11, 2) := by decide +kernel
theorem dL_law_1949 : decode cL_law 1949 = .ok (.sipush 128, 3) := by decide +kernel
theorem dL_law_1952 : decode cL_law 1952 = .ok (.irem, 1) := by decide +kernel
theorem dL_law_1953 : decode cL_law 1953 = .ok (.iconst 0, 1) := by decide +kernel
theorem dL_law_1954 : decode cL_law 1954 = .ok (.iconst 0, 1) := by decide +kernel
theorem dL_law_1955 : decode cL_law 1955 = .ok (.invokestatic 85, 3) := by decide +kernel
theorem dL_law_1958 : decode cL_law 1958 = .ok (.istore 21, 2) := by decide +kernel
theorem dL_law_1960 : decode cL_law 1960 = .ok (.iload 21, 2) := by decide +kernel
theorem dL_law_1962 : decode cL_law 1962 = .ok (.bipush (-9), 2) := by decide +kernel
theorem dL_law_1964 : decode cL_law 1964 = .ok (.if_icmp .ne 7, 3) := by decide +kernel
theorem dL_law_1967 : decode cL_law 1967 = .ok (.iconst 1, 1) := by decide +kernel
theorem dL_law_1968 : decode cL_law 1968 = .ok (.goto 4, 3) := by decide +kernel
theorem dL_law_1971 : decode cL_law 1971 = .ok (.iconst 0, 1) := by decide +kernel
theorem dL_law_1972 : decode cL_law 1972 = .ok (.istore 22, 2) := by decide +kernel
theorem dL_law_1974 : decode cL_law 1974 = .ok (.iload 23, 2) := by decide +kernel
theorem dL_law_1976 : decode cL_law 1976 = .ok (.ifCond .ne 18, 3) := by decide +kernel
theorem dL_law_1979 : decode cL_law 1979 = .ok (.iload 21, 2) := by decide +kernel
theorem dL_law_1981 : decode cL_law 1981 = .ok (.bipush (-13), 2) := by decide +kernel
theorem dL_law_1983 : decode cL_law 1983 = .ok (.if_icmp .ne 7, 3) := by decide +kernel
theorem dL_law_1986 : decode cL_law 1986 = .ok (.iconst 1, 1) := by decide +kernel
theorem dL_law_1987 : decode cL_law 1987 = .ok (.goto 51, 3) := by decide +kernel
theorem dL_law_1990 : decode cL_law 1990 = .ok (.iconst 0, 1) := by decide +kernel
theorem dL_law_1991 : decode cL_law 1991 = .ok (.goto 47, 3) := by decide +kernel
theorem dL_law_1994 : decode cL_law 1994 = .ok (.iload 22, 2) := by decide +kernel
theorem dL_law_1996 : decode cL_law 1996 = .ok (.ifCond .ne 37, 3) := by decide +kernel
theorem dL_law_1999 : decode cL_law 1999 = .ok (.iload 21, 2) := by decide +kernel
theorem dL_law_2001 : decode cL_law 2001 = .ok (.ifCond .lt 19, 3) := by decide +kernel
theorem dL_law_2004 : decode cL_law 2004 = .ok (.iload 21, 2) := by decide +kernel
theorem dL_law_2006 : decode cL_law 2006 = .ok (.bipush 8, 2) := by decide +kernel
theorem dL_law_2008 : decode cL_law 2008 = .ok (.if_icmp .ge 12, 3) := by decide +kernel
theorem dL_law_2011 : decode cL_law 2011 = .ok (.aload_n 1, 1) := by decide +kernel
theorem dL_law_2012 : decode cL_law 2012 = .ok (.iload 21, 2) := by decide +kernel
theorem dL_law_2014 : decode cL_law 2014 = .ok (.invokevirtual 69, 3) := by decide +kernel
theorem dL_law_2017 : decode cL_law 2017 = .ok (.ifCond .eq 16, 3) := by decide +kernel
theorem dL_law_2020 : decode cL_law 2020 = .ok (.iload 21, 2) := by decide +kernel
theorem dL_law_2022 : decode cL_law 2022 = .ok (.bipush (-13), 2) := by decide +kernel
theorem dL_law_2024 : decode cL_law 2024 = .ok (.if_icmp .ne 13, 3) := by decide +kernel
theorem dL_law_2027 : decode cL_law 2027 = .ok (.iload 20, 2) := by decide +kernel
theorem dL_law_2029 : decode cL_law 2029 = .ok (.iconst 1, 1) := by decide +kernel
theorem dL_law_2030 : decode cL_law 2030 = .ok (.if_icmp .ge 7, 3) := by decide +kernel
theorem dL_law_2033 : decode cL_law 2033 = .ok (.iconst 1, 1) := by decide +kernel
theorem dL_law_2034 : decode cL_law 2034 = .ok (.goto 4, 3) := by decide +kernel
theorem dL_law_2037 : decode cL_law 2037 = .ok (.iconst 0, 1) := by decide +kernel
theorem dL_law_2038 : decode cL_law 2038 = .ok (.istore 7, 2) := by decide +kernel
theorem dL_law_2040 : decode cL_law 2040 = .ok (.iload 7, 2) := by decide +kernel
theorem dL_law_2042 : decode cL_law 2042 = .ok (.ifCond .eq 16, 3) := by decide +kernel
theorem dL_law_2045 : decode cL_law 2045 = .ok (.iload 22, 2) := by decide +kernel
theorem dL_law_2047 : decode cL_law 2047 = .ok (.ifCond .eq 11, 3) := by decide +kernel
theorem dL_law_2050 : decode cL_law 2050 = .ok (.aload_n 1, 1) := by decide +kernel
theorem dL_law_2051 : decode cL_law 2051 = .ok (.iload 11, 2) := by decide +kernel
theorem dL_law_2053 : decode cL_law 2053 = .ok (.invokestatic 142, 3) := by decide +kernel
theorem dL_law_2056 : decode cL_law 2056 = .ok (.istore 7, 2) := by decide +kernel
theorem dL_law_2058 : decode cL_law 2058 = .ok (.iload 7, 2) := by decide +kernel
theorem dL_law_2060 : decode cL_law 2060 = .ok (.ifCond .eq 39, 3) := by decide +kernel
theorem dL_law_2063 : decode cL_law 2063 = .ok (.aload_n 1, 1) := by decide +kernel
theorem dL_law_2064 : decode cL_law 2064 = .ok (.invokevirtual 72, 3) := by decide +kernel
theorem dL_law_2067 : decode cL_law 2067 = .ok (.ifCond .ne 32, 3) := by decide +kernel
theorem dL_law_2070 : decode cL_law 2070 = .ok (.iload 8, 2) := by decide +kernel
theorem dL_law_2072 : decode cL_law 2072 = .ok (.iconst 4, 1) := by decide +kernel
theorem dL_law_2073 : decode cL_law 2073 = .ok (.irem, 1) := by decide +kernel
theorem dL_law_2074 : decode cL_law 2074 = .ok (.iconst 3, 1) := by decide +kernel
theorem dL_law_2075 : decode cL_law 2075 = .ok (.if_icmp .lt 20, 3) := by decide +kernel
theorem dL_law_2078 : decode cL_law 2078 = .ok (.aload_n 1, 1) := by decide +kernel
theorem dL_law_2079 : decode cL_law 2079 = .ok (.aload_n 2, 1) := by decide +kernel
theorem dL_law_2080 : decode cL_law 2080 = .ok (.aload_n 3, 1) := by decide +kernel
theorem dL_law_2081 : decode cL_law 2081 = .ok (.aload 4, 2) := by decide +kernel
theorem dL_law_2083 : decode cL_law 2083 = .ok (.aload 5, 2) := by decide +kernel
theorem dL_law_2085 : decode cL_law 2085 = .ok (.aload 6, 2) := by decide +kernel
theorem dL_law_2087 : decode cL_law 2087 = .ok (.iload 11, 2) := by decide +kernel
theorem dL_law_2089 : decode cL_law 2089 = .ok (.invokestatic 110, 3) := by decide +kernel
theorem dL_law_2092 : decode cL_law 2092 = .ok (.ifCond .eq 7, 3) := by decide +kernel
theorem dL_law_2095 : decode cL_law 2095 = .ok (.iconst 1, 1) := by decide +kernel
theorem dL_law_2096 : decode cL_law 2096 = .ok (.goto 4, 3) := by decide +kernel
theorem dL_law_2099 : decode cL_law 2099 = .ok (.iconst 0, 1) := by decide +kernel
theorem dL_law_2100 : decode cL_law 2100 = .ok (.istore 7, 2) := by decide +kernel
theorem dL_law_2102 : decode cL_law 2102 = .ok (.iinc 8 1, 3) := by decide +kernel
theorem dL_law_2105 : decode cL_law 2105 = .ok (.goto (-2052), 3) := by decide +kernel
theorem dL_law_2108 : decode cL_law 2108 = .ok (.iload 7, 2) := by decide +kernel
theorem dL_law_2110 : decode cL_law 2110 = .ok (.ifCond .eq 23, 3) := by decide +kernel
theorem dL_law_2113 : decode cL_law 2113 = .ok (.aload_n 1, 1) := by decide +kernel
theorem dL_law_2114 : decode cL_law 2114 = .ok (.aload_n 2, 1) := by decide +kernel
theorem dL_law_2115 : decode cL_law 2115 = .ok (.aload_n 3, 1) := by decide +kernel
theorem dL_law_2116 : decode cL_law 2116 = .ok (.aload 4, 2) := by decide +kernel
theorem dL_law_2118 : decode cL_law 2118 = .ok (.aload 5, 2) := by decide +kernel
theorem dL_law_2120 : decode cL_law 2120 = .ok (.aload 6, 2) := by decide +kernel
theorem dL_law_2122 : decode cL_law 2122 = .ok (.iconst 4, 1) := by decide +kernel
theorem dL_law_2123 : decode cL_law 2123 = .ok (.invokestatic 110, 3) := by decide +kernel
theorem dL_law_2126 : decode cL_law 2126 = .ok (.ifCond .eq 7, 3) := by decide +kernel
theorem dL_law_2129 : decode cL_law 2129 = .ok (.iconst 1, 1) := by decide +kernel
theorem dL_law_2130 : decode cL_law 2130 = .ok (.goto 4, 3) := by decide +kernel
theorem dL_law_2133 : decode cL_law 2133 = .ok (.iconst 0, 1) := by decide +kernel
theorem dL_law_2134 : decode cL_law 2134 = .ok (.ireturn, 1) := by decide +kernel
