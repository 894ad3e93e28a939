theorem dL_law_1630 : decode code 1630 = .ok (.dload 8, 2) := by decide +kernel
theorem dL_law_1632 : decode code 1632 = .ok (.dcmp .l, 1) := by decide +kernel
theorem dL_law_1633 : decode code 1633 = .ok (.ifCond .eq 21, 3) := by decide +kernel
theorem dL_law_1636 : decode code 1636 = .ok (.dload 6, 2) := by decide +kernel
theorem dL_law_1638 : decode code 1638 = .ok (.dload 6, 2) := by decide +kernel
theorem dL_law_1640 : decode code 1640 = .ok (.dcmp .l, 1) := by decide +kernel
theorem dL_law_1641 : decode code 1641 = .ok (.ifCond .eq 11, 3) := by decide +kernel
theorem dL_law_1644 : decode code 1644 = .ok (.dload 8, 2) := by decide +kernel
theorem dL_law_1646 : decode code 1646 = .ok (.dload 8, 2) := by decide +kernel
theorem dL_law_1648 : decode code 1648 = .ok (.dcmp .l, 1) := by decide +kernel
theorem dL_law_1649 : decode code 1649 = .ok (.ifCond .ne 5, 3) := by decide +kernel
theorem dL_law_1652 : decode code 1652 = .ok (.iconst 0, 1) := by decide +kernel
theorem dL_law_1654 : decode code 1654 = .ok (.goto 865, 3) := by decide +kernel
theorem dL_law_1657 : decode code 1657 = .ok (.aload_n 1, 1) := by decide +kernel
theorem dL_law_1658 : decode code 1658 = .ok (.aload_n 0, 1) := by decide +kernel
theorem dL_law_1659 : decode code 1659 = .ok (.iload 5, 2) := by decide +kernel
theorem dL_law_1661 : decode code 1661 = .ok (.iconst 1, 1) := by decide +kernel
theorem dL_law_1662 : decode code 1662 = .ok (.iadd, 1) := by decide +kernel
theorem dL_law_1663 : decode code 1663 = .ok (.iaload, 1) := by decide +kernel
theorem dL_law_1664 : decode code 1664 = .ok (.aload_n 0, 1) := by decide +kernel
theorem dL_law_1665 : decode code 1665 = .ok (.iload 5, 2) := by decide +kernel
theorem dL_law_1667 : decode code 1667 = .ok (.iconst 2, 1) := by decide +kernel
theorem dL_law_1668 : decode code 1668 = .ok (.iadd, 1) := by decide +kernel
theorem dL_law_1669 : decode code 1669 = .ok (.iaload, 1) := by decide +kernel
theorem dL_law_1670 : decode code 1670 = .ok (.aload_n 0, 1) := by decide +kernel
theorem dL_law_1671 : decode code 1671 = .ok (.iload 5, 2) := by decide +kernel
theorem dL_law_1673 : decode code 1673 = .ok (.iconst 3, 1) := by decide +kernel
theorem dL_law_1674 : decode code 1674 = .ok (.iadd, 1) := by decide +kernel
theorem dL_law_1675 : decode code 1675 = .ok (.iaload, 1) := by decide +kernel
theorem dL_law_1676 : decode code 1676 = .ok (.aload 4, 2) := by decide +kernel
theorem dL_law_1678 : decode code 1678 = .ok (.invokestatic 215, 3) := by decide +kernel
theorem dL_law_1681 : decode code 1681 = .ok (.istore 6, 2) := by decide +kernel
theorem dL_law_1683 : decode code 1683 = .ok (.aload_n 2, 1) := by decide +kernel
theorem dL_law_1684 : decode code 1684 = .ok (.aload_n 0, 1) := by decide +kernel
theorem dL_law_1685 : decode code 1685 = .ok (.iload 5, 2) := by decide +kernel
theorem dL_law_1687 : decode code 1687 = .ok (.iconst 1, 1) := by decide +kernel
theorem dL_law_1688 : decode code 1688 = .ok (.iadd, 1) := by decide +kernel
theorem dL_law_1689 : decode code 1689 = .ok (.iaload, 1) := by decide +kernel
theorem dL_law_1690 : decode code 1690 = .ok (.aload_n 0, 1) := by decide +kernel
theorem dL_law_1691 : decode code 1691 = .ok (.iload 5, 2) := by decide +kernel
theorem dL_law_1693 : decode code 1693 = .ok (.iconst 2, 1) := by decide +kernel
theorem dL_law_1694 : decode code 1694 = .ok (.iadd, 1) := by decide +kernel
theorem dL_law_1695 : decode code 1695 = .ok (.iaload, 1) := by decide +kernel
theorem dL_law_1696 : decode code 1696 = .ok (.aload_n 0, 1) := by decide +kernel
theorem dL_law_1697 : decode code 1697 = .ok (.iload 5, 2) := by decide +kernel
theorem dL_law_1699 : decode code 1699 = .ok (.iconst 3, 1) := by decide +kernel
theorem dL_law_1700 : decode code 1700 = .ok (.iadd, 1) := by decide +kernel
theorem dL_law_1701 : decode code 1701 = .ok (.iaload, 1) := by decide +kernel
theorem dL_law_1702 : decode code 1702 = .ok (.invokevirtual 218, 3) := by decide +kernel
theorem dL_law_1705 : decode code 1705 = .ok (.fstore 7, 2) := by decide +kernel
theorem dL_law_1707 : decode code 1707 = .ok (.aload_n 2, 1) := by decide +kernel
theorem dL_law_1708 : decode code 1708 = .ok (.invokevirtual 149, 3) := by decide +kernel
theorem dL_law_1711 : decode code 1711 = .ok (.iload 6, 2) := by decide +kernel
theorem dL_law_1713 : decode code 1713 = .ok (.if_icmp .eq 5, 3) := by decide +kernel
theorem dL_law_1716 : decode code 1716 = .ok (.iconst 0, 1) := by decide +kernel
theorem dL_law_1718 : decode code 1718 = .ok (.iload 6, 2) := by decide +kernel
theorem dL_law_1720 : decode code 1720 = .ok (.ifCond .ne 36, 3) := by decide +kernel
theorem dL_law_1723 : decode code 1723 = .ok (.aload 4, 2) := by decide +kernel
theorem dL_law_1725 : decode code 1725 = .ok (.iconst 0, 1) := by decide +kernel
theorem dL_law_1726 : decode code 1726 = .ok (.daload, 1) := by decide +kernel
theorem dL_law_1727 : decode code 1727 = .ok (.fload 7, 2) := by decide +kernel
theorem dL_law_1729 : decode code 1729 = .ok (.f2d, 1) := by decide +kernel
theorem dL_law_1730 : decode code 1730 = .ok (.dcmp .l, 1) := by decide +kernel
theorem dL_law_1731 : decode code 1731 = .ok (.ifCond .eq 25, 3) := by decide +kernel
theorem dL_law_1734 : decode code 1734 = .ok (.aload 4, 2) := by decide +kernel
theorem dL_law_1736 : decode code 1736 = .ok (.iconst 0, 1) := by decide +kernel
theorem dL_law_1737 : decode code 1737 = .ok (.daload, 1) := by decide +kernel
theorem dL_law_1738 : decode code 1738 = .ok (.aload 4, 2) := by decide +kernel
theorem dL_law_1740 : decode code 1740 = .ok (.iconst 0, 1) := by decide +kernel
theorem dL_law_1741 : decode code 1741 = .ok (.daload, 1) := by decide +kernel
theorem dL_law_1742 : decode code 1742 = .ok (.dcmp .l, 1) := by decide +kernel
theorem dL_law_1743 : decode code 1743 = .ok (.ifCond .eq 11, 3) := by decide +kernel
theorem dL_law_1746 : decode code 1746 = .ok (.fload 7, 2) := by decide +kernel
theorem dL_law_1748 : decode code 1748 = .ok (.fload 7, 2) := by decide +kernel
theorem dL_law_1750 : decode code 1750 = .ok (.fcmp .l, 1) := by decide +kernel
theorem dL_law_1751 : decode code 1751 = .ok (.ifCond .ne 5, 3) := by decide +kernel
theorem dL_law_1754 : decode code 1754 = .ok (.iconst 0, 1) := by decide +kernel
theorem dL_law_1756 : decode code 1756 = .ok (.goto 763, 3) := by decide +kernel
theorem dL_law_1759 : decode code 1759 = .ok (.aload_n 1, 1) := by decide +kernel
theorem dL_law_1760 : decode code 1760 = .ok (.aload_n 0, 1) := by decide +kernel
theorem dL_law_1761 : decode code 1761 = .ok (.iload 5, 2) := by decide +kernel
theorem dL_law_1763 : decode code 1763 = .ok (.iconst 1, 1) := by decide +kernel
theorem dL_law_1764 : decode code 1764 = .ok (.iadd, 1) := by decide +kernel
theorem dL_law_1765 : decode code 1765 = .ok (.iaload, 1) := by decide +kernel
theorem dL_law_1766 : decode code 1766 = .ok (.aload_n 3, 1) := by decide +kernel
theorem dL_law_1767 : decode code 1767 = .ok (.invokestatic 219, 3) := by decide +kernel
theorem dL_law_1770 : decode code 1770 = .ok (.istore 6, 2) := by decide +kernel
theorem dL_law_1772 : decode code 1772 = .ok (.aload_n 2, 1) := by decide +kernel
theorem dL_law_1773 : decode code 1773 = .ok (.aload_n 0, 1) := by decide +kernel
theorem dL_law_1774 : decode code 1774 = .ok (.iload 5, 2) := by decide +kernel
theorem dL_law_1776 : decode code 1776 = .ok (.iconst 1, 1) := by decide +kernel
theorem dL_law_1777 : decode code 1777 = .ok (.iadd, 1) := by decide +kernel
theorem dL_law_1778 : decode code 1778 = .ok (.iaload, 1) := by decide +kernel
theorem dL_law_1779 : decode code 1779 = .ok (.invokevirtual 221, 3) := by decide +kernel
theorem dL_law_1782 : decode code 1782 = .ok (.istore 7, 2) := by decide +kernel
theorem dL_law_1784 : decode code 1784 = .ok (.aload_n 2, 1) := by decide +kernel
theorem dL_law_1785 : decode code 1785 = .ok (.invokevirtual 149, 3) := by decide +kernel
theorem dL_law_1788 : decode code 1788 = .ok (.iload 6, 2) := by decide +kernel
theorem dL_law_1790 : decode code 1790 = .ok (.if_icmp .eq 5, 3) := by decide +kernel
theorem dL_law_1793 : decode code 1793 = .ok (.iconst 0, 1) := by decide +kernel
theorem dL_law_1795 : decode code 1795 = .ok (.iload 6, 2) := by decide +kernel
theorem dL_law_1797 : decode code 1797 = .ok (.ifCond .ne 15, 3) := by decide +kernel
theorem dL_law_1800 : decode code 1800 = .ok (.aload_n 3, 1) := by decide +kernel
theorem dL_law_1801 : decode code 1801 = .ok (.iconst 0, 1) := by decide +kernel
theorem dL_law_1802 : decode code 1802 = .ok (.laload, 1) := by decide +kernel
theorem dL_law_1803 : decode code 1803 = .ok (.iload 7, 2) := by decide +kernel
theorem dL_law_1805 : decode code 1805 = .ok (.i2l, 1) := by decide +kernel
theorem dL_law_1806 : decode code 1806 = .ok (.lcmp, 1) := by decide +kernel
theorem dL_law_1807 : decode code 1807 = .ok (.ifCond .eq 5, 3) := by decide +kernel
theorem dL_law_1810 : decode code 1810 = .ok (.iconst 0, 1) := by decide +kernel
theorem dL_law_1812 : decode code 1812 = .ok (.goto 707, 3) := by decide +kernel
theorem dL_law_1815 : decode code 1815 = .ok (.aload_n 1, 1) := by decide +kernel
theorem dL_law_1816 : decode code 1816 = .ok (.aload_n 0, 1) := by decide +kernel
theorem dL_law_1817 : decode code 1817 = .ok (.iload 5, 2) := by decide +kernel
theorem dL_law_1819 : decode code 1819 = .ok (.iconst 1, 1) := by decide +kernel
theorem dL_law_1820 : decode code 1820 = .ok (.iadd, 1) := by decide +kernel
theorem dL_law_1821 : decode code 1821 = .ok (.iaload, 1) := by decide +kernel
theorem dL_law_1822 : decode code 1822 = .ok (.aload_n 0, 1) := by decide +kernel
theorem dL_law_1823 : decode code 1823 = .ok (.iload 5, 2) := by decide +kernel
theorem dL_law_1825 : decode code 1825 = .ok (.iconst 2, 1) := by decide +kernel
theorem dL_law_1826 : decode code 1826 = .ok (.iadd, 1) := by decide +kernel
theorem dL_law_1827 : decode code 1827 = .ok (.iaload, 1) := by decide +kernel
theorem dL_law_1828 : decode code 1828 = .ok (.aload_n 0, 1) := by decide +kernel
theorem dL_law_1829 : decode code 1829 = .ok (.iload 5, 2) := by decide +kernel
theorem dL_law_1831 : decode code 1831 = .ok (.iconst 3, 1) := by decide +kernel
theorem dL_law_1832 : decode code 1832 = .ok (.iadd, 1) := by decide +kernel
theorem dL_law_1833 : decode code 1833 = .ok (.iaload, 1) := by decide +kernel
theorem dL_law_1834 : decode code 1834 = .ok (.aload_n 0, 1) := by decide +kernel
theorem dL_law_1835 : decode code 1835 = .ok (.iload 5, 2) := by decide +kernel
theorem dL_law_1837 : decode code 1837 = .ok (.iconst 4, 1) := by decide +kernel
theorem dL_law_1838 : decode code 1838 = .ok (.iadd, 1) := by decide +kernel
theorem dL_law_1839 : decode code 1839 = .ok (.iaload, 1) := by decide +kernel
theorem dL_law_1840 : decode code 1840 = .ok (.aload_n 0, 1) := by decide +kernel
theorem dL_law_1841 : decode code 1841 = .ok (.iload 5, 2) := by decide +kernel
theorem dL_law_1843 : decode code 1843 = .ok (.iconst 5, 1) := by decide +kernel
theorem dL_law_1844 : decode code 1844 = .ok (.iadd, 1) := by decide +kernel
theorem dL_law_1845 : decode code 1845 = .ok (.iaload, 1) := by decide +kernel
theorem dL_law_1846 : decode code 1846 = .ok (.aload_n 3, 1) := by decide +kernel
theorem dL_law_1847 : decode code 1847 = .ok (.invokestatic 222, 3) := by decide +kernel
theorem dL_law_1850 : decode code 1850 = .ok (.istore 6, 2) := by decide +kernel
theorem dL_law_1852 : decode code 1852 = .ok (.aload_n 2, 1) := by decide +kernel
theorem dL_law_1853 : decode code 1853 = .ok (.aload_n 0, 1) := by decide +kernel
theorem dL_law_1854 : decode code 1854 = .ok (.iload 5, 2) := by decide +kernel
theorem dL_law_1856 : decode code 1856 = .ok (.iconst 1, 1) := by decide +kernel
theorem dL_law_1857 : decode code 1857 = .ok (.iadd, 1) := by decide +kernel
theorem dL_law_1858 : decode code 1858 = .ok (.iaload, 1) := by decide +kernel
theorem dL_law_1859 : decode code 1859 = .ok (.aload_n 0, 1) := by decide +kernel
theorem dL_law_1860 : decode code 1860 = .ok (.iload 5, 2) := by decide +kernel
theorem dL_law_1862 : decode code 1862 = .ok (.iconst 2, 1) := by decide +kernel
theorem dL_law_1863 : decode code 1863 = .ok (.iadd, 1) := by decide +kernel
theorem dL_law_1864 : decode code 1864 = .ok (.iaload, 1) := by decide +kernel
theorem dL_law_1865 : decode code 1865 = .ok (.aload_n 0, 1) := by decide +kernel
theorem dL_law_1866 : decode code 1866 = .ok (.iload 5, 2) := by decide +kernel
theorem dL_law_1868 : decode code 1868 = .ok (.iconst 3, 1) := by decide +kernel
theorem dL_law_1869 : decode code 1869 = .ok (.iadd, 1) := by decide +kernel
theorem dL_law_1870 : decode code 1870 = .ok (.iaload, 1) := by decide +kernel
theorem dL_law_1871 : decode code 1871 = .ok (.aload_n 0, 1) := by decide +kernel
theorem dL_law_1872 : decode code 1872 = .ok (.iload 5, 2) := by decide +kernel
theorem dL_law_1874 : decode code 1874 = .ok (.iconst 4, 1) := by decide +kernel
theorem dL_law_1875 : decode code 1875 = .ok (.iadd, 1) := by decide +kernel
theorem dL_law_1876 : decode code 1876 = .ok (.iaload, 1) := by decide +kernel
theorem dL_law_1877 : decode code 1877 = .ok (.aload_n 0, 1) := by decide +kernel
theorem dL_law_1878 : decode code 1878 = .ok (.iload 5, 2) := by decide +kernel
theorem dL_law_1880 : decode code 1880 = .ok (.iconst 5, 1) := by decide +kernel
theorem dL_law_1881 : decode code 1881 = .ok (.iadd, 1) := by decide +kernel
theorem dL_law_1882 : decode code 1882 = .ok (.iaload, 1) := by decide +kernel
theorem dL_law_1883 : decode code 1883 = .ok (.invokevirtual 224, 3) := by decide +kernel
theorem dL_law_1886 : decode code 1886 = .ok (.istore 7, 2) := by decide +kernel
theorem dL_law_1888 : decode code 1888 = .ok (.aload_n 2, 1) := by decide +kernel
theorem dL_law_1889 : decode code 1889 = .ok (.invokevirtual 149, 3) := by decide +kernel
theorem dL_law_1892 : decode code 1892 = .ok (.iload 6, 2) := by decide +kernel
theorem dL_law_1894 : decode code 1894 = .ok (.if_icmp .eq 5, 3) := by decide +kernel
theorem dL_law_1897 : decode code 1897 = .ok (.iconst 0, 1) := by decide +kernel
theorem dL_law_1899 : decode code 1899 = .ok (.iload 6, 2) := by decide +kernel
theorem dL_law_1901 : decode code 1901 = .ok (.ifCond .ne 15, 3) := by decide +kernel
theorem dL_law_1904 : decode code 1904 = .ok (.aload_n 3, 1) := by decide +kernel
theorem dL_law_1905 : decode code 1905 = .ok (.iconst 0, 1) := by decide +kernel
theorem dL_law_1906 : decode code 1906 = .ok (.laload, 1) := by decide +kernel
theorem dL_law_1907 : decode code 1907 = .ok (.iload 7, 2) := by decide +kernel
theorem dL_law_1909 : decode code 1909 = .ok (.i2l, 1) := by decide +kernel
theorem dL_law_1910 : decode code 1910 = .ok (.lcmp, 1) := by decide +kernel
theorem dL_law_1911 : decode code 1911 = .ok (.ifCond .eq 5, 3) := by decide +kernel
theorem dL_law_1914 : decode code 1914 = .ok (.iconst 0, 1) := by decide +kernel
theorem dL_law_1916 : decode code 1916 = .ok (.goto 603, 3) := by decide +kernel
theorem dL_law_1919 : decode code 1919 = .ok (.aload_n 1, 1) := by decide +kernel
theorem dL_law_1920 : decode code 1920 = .ok (.aload_n 0, 1) := by decide +kernel
theorem dL_law_1921 : decode code 1921 = .ok (.iload 5, 2) := by decide +kernel
theorem dL_law_1923 : decode code 1923 = .ok (.iconst 1, 1) := by decide +kernel
theorem dL_law_1924 : decode code 1924 = .ok (.iadd, 1) := by decide +kernel
theorem dL_law_1925 : decode code 1925 = .ok (.iaload, 1) := by decide +kernel
theorem dL_law_1926 : decode code 1926 = .ok (.aload_n 3, 1) := by decide +kernel
theorem dL_law_1927 : decode code 1927 = .ok (.invokestatic 225, 3) := by decide +kernel
theorem dL_law_1930 : decode code 1930 = .ok (.istore 6, 2) := by decide +kernel
theorem dL_law_1932 : decode code 1932 = .ok (.aload_n 2, 1) := by decide +kernel
theorem dL_law_1933 : decode code 1933 = .ok (.aload_n 0, 1) := by decide +kernel
theorem dL_law_1934 : decode code 1934 = .ok (.iload 5, 2) := by decide +kernel
theorem dL_law_1936 : decode code 1936 = .ok (.iconst 1, 1) := by decide +kernel
theorem dL_law_1937 : decode code 1937 = .ok (.iadd, 1) := by decide +kernel
theorem dL_law_1938 : decode code 1938 = .ok (.iaload, 1) := by decide +kernel
theorem dL_law_1939 : decode code 1939 = .ok (.invokevirtual 227, 3) := by decide +kernel
theorem dL_law_1942 : decode code 1942 = .ok (.istore 7, 2) := by decide +kernel
theorem dL_law_1944 : decode code 1944 = .ok (.aload_n 2, 1) := by decide +kernel
theorem dL_law_1945 : decode code 1945 = .ok (.invokevirtual 149, 3) := by decide +kernel
theorem dL_law_1948 : decode code 1948 = .ok (.iload 6, 2) := by decide +kernel
theorem dL_law_1950 : decode code 1950 = .ok (.if_icmp .eq 5, 3) := by decide +kernel
theorem dL_law_1953 : decode code 1953 = .ok (.iconst 0, 1) := by decide +kernel
theorem dL_law_1955 : decode code 1955 = .ok (.iload 6, 2) := by decide +kernel
theorem dL_law_1957 : decode code 1957 = .ok (.ifCond .ne 15, 3) := by decide +kernel
theorem dL_law_1960 : decode code 1960 = .ok (.aload_n 3, 1) := by decide +kernel
theorem dL_law_1961 : decode code 1961 = .ok (.iconst 0, 1) := by decide +kernel
theorem dL_law_1962 : decode code 1962 = .ok (.laload, 1) := by decide +kernel
theorem dL_law_1963 : decode code 1963 = .ok (.iload 7, 2) := by decide +kernel
theorem dL_law_1965 : decode code 1965 = .ok (.i2l, 1) := by decide +kernel
theorem dL_law_1966 : decode code 1966 = .ok (.lcmp, 1) := by decide +kernel
theorem dL_law_1967 : decode code 1967 = .ok (.ifCond .eq 5, 3) := by decide +kernel
theorem dL_law_1970 : decode code 1970 = .ok (.iconst 0, 1) := by decide +kernel
theorem dL_law_1972 : decode code 1972 = .ok (.goto 547, 3) := by decide +kernel
theorem dL_law_1975 : decode code 1975 = .ok (.aload_n 1, 1) := by decide +kernel
theorem dL_law_1976 : decode code 1976 = .ok (.invokevirtual 228, 3) := by decide +kernel
theorem dL_law_1979 : decode code 1979 = .ok (.aload_n 2, 1) := by decide +kernel
theorem dL_law_1980 : decode code 1980 = .ok (.invokevirtual 231, 3) := by decide +kernel
theorem dL_law_1983 : decode code 1983 = .ok (.if_icmp .eq 536, 3) := by decide +kernel
theorem dL_law_1986 : decode code 1986 = .ok (.iconst 0, 1) := by decide +kernel
theorem dL_law_1988 : decode code 1988 = .ok (.aload_n 1, 1) := by decide +kernel
theorem dL_law_1989 : decode code 1989 = .ok (.aload_n 0, 1) := by decide +kernel
theorem dL_law_1990 : decode code 1990 = .ok (.iload 5, 2) := by decide +kernel
theorem dL_law_1992 : decode code 1992 = .ok (.iconst 1, 1) := by decide +kernel
theorem dL_law_1993 : decode code 1993 = .ok (.iadd, 1) := by decide +kernel
theorem dL_law_1994 : decode code 1994 = .ok (.iaload, 1) := by decide +kernel
theorem dL_law_1995 : decode code 1995 = .ok (.aload_n 0, 1) := by decide +kernel
theorem dL_law_1996 : decode code 1996 = .ok (.iload 5, 2) := by decide +kernel
theorem dL_law_1998 : decode code 1998 = .ok (.iconst 2, 1) := by decide +kernel
theorem dL_law_1999 : decode code 1999 = .ok (.iadd, 1) := by decide +kernel
theorem dL_law_2000 : decode code 2000 = .ok (.iaload, 1) := by decide +kernel
theorem dL_law_2001 : decode code 2001 = .ok (.aload_n 3, 1) := by decide +kernel
theorem dL_law_2002 : decode code 2002 = .ok (.invokestatic 232, 3) := by decide +kernel
theorem dL_law_2005 : decode code 2005 = .ok (.istore 6, 2) := by decide +kernel
theorem dL_law_2007 : decode code 2007 = .ok (.aload_n 2, 1) := by decide +kernel
theorem dL_law_2008 : decode code 2008 = .ok (.aload_n 0, 1) := by decide +kernel
theorem dL_law_2009 : decode code 2009 = .ok (.iload 5, 2) := by decide +kernel
theorem dL_law_2011 : decode code 2011 = .ok (.iconst 1, 1) := by decide +kernel
theorem dL_law_2012 : decode code 2012 = .ok (.iadd, 1) := by decide +kernel
theorem dL_law_2013 : decode code 2013 = .ok (.iaload, 1) := by decide +kernel
theorem dL_law_2014 : decode code 2014 = .ok (.aload_n 0, 1) := by decide +kernel
theorem dL_law_2015 : decode code 2015 = .ok (.iload 5, 2) := by decide +kernel
theorem dL_law_2017 : decode code 2017 = .ok (.iconst 2, 1) := by decide +kernel
theorem dL_law_2018 : decode code 2018 = .ok (.iadd, 1) := by decide +kernel
theorem dL_law_2019 : decode code 2019 = .ok (.iaload, 1) := by decide +kernel
theorem dL_law_2020 : decode code 2020 = .ok (.invokevirtual 234, 3) := by decide +kernel
theorem dL_law_2023 : decode code 2023 = .ok (.istore 7, 2) := by decide +kernel
theorem dL_law_2025 : decode code 2025 = .ok (.aload_n 2, 1) := by decide +kernel
theorem dL_law_2026 : decode code 2026 = .ok (.invokevirtual 149, 3) := by decide +kernel
theorem dL_law_2029 : decode code 2029 = .ok (.iload 6, 2) := by decide +kernel
theorem dL_law_2031 : decode code 2031 = .ok (.if_icmp .eq 5, 3) := by decide +kernel
theorem dL_law_2034 : decode code 2034 = .ok (.iconst 0, 1) := by decide +kernel
theorem dL_law_2036 : decode code 2036 = .ok (.iload 6, 2) := by decide +kernel
theorem dL_law_2038 : decode code 2038 = .ok (.ifCond .ne 15, 3) := by decide +kernel
theorem dL_law_2041 : decode code 2041 = .ok (.aload_n 3, 1) := by decide +kernel
theorem dL_law_2042 : decode code 2042 = .ok (.iconst 0, 1) := by decide +kernel
theorem dL_law_2043 : decode code 2043 = .ok (.laload, 1) := by decide +kernel
theorem dL_law_2044 : decode code 2044 = .ok (.iload 7, 2) := by decide +kernel
theorem dL_law_2046 : decode code 2046 = .ok (.i2l, 1) := by decide +kernel
theorem dL_law_2047 : decode code 2047 = .ok (.lcmp, 1) := by decide +kernel
theorem dL_law_2048 : decode code 2048 = .ok (.ifCond .eq 5, 3) := by decide +kernel
theorem dL_law_2051 : decode code 2051 = .ok (.iconst 0, 1) := by decide +kernel
theorem dL_law_2053 : decode code 2053 = .ok (.goto 466, 3) := by decide +kernel
theorem dL_law_2056 : decode code 2056 = .ok (.aload_n 1, 1) := by decide +kernel
theorem dL_law_2057 : decode code 2057 = .ok (.aload_n 0, 1) := by decide +kernel
theorem dL_law_2058 : decode code 2058 = .ok (.iload 5, 2) := by decide +kernel
theorem dL_law_2060 : decode code 2060 = .ok (.iconst 1, 1) := by decide +kernel
theorem dL_law_2061 : decode code 2061 = .ok (.iadd, 1) := by decide +kernel
theorem dL_law_2062 : decode code 2062 = .ok (.iaload, 1) := by decide +kernel
theorem dL_law_2063 : decode code 2063 = .ok (.aload_n 0, 1) := by decide +kernel
theorem dL_law_2064 : decode code 2064 = .ok (.iload 5, 2) := by decide +kernel
theorem dL_law_2066 : decode code 2066 = .ok (.iconst 2, 1) := by decide +kernel
theorem dL_law_2067 : decode code 2067 = .ok (.iadd, 1) := by decide +kernel
theorem dL_law_2068 : decode code 2068 = .ok (.iaload, 1) := by decide +kernel
theorem dL_law_2069 : decode code 2069 = .ok (.aload_n 3, 1) := by decide +kernel
theorem dL_law_2070 : decode code 2070 = .ok (.invokestatic 235, 3) := by decide +kernel
theorem dL_law_2073 : decode code 2073 = .ok (.istore 6, 2) := by decide +kernel
theorem dL_law_2075 : decode code 2075 = .ok (.aload_n 2, 1) := by decide +kernel
theorem dL_law_2076 : decode code 2076 = .ok (.aload_n 0, 1) := by decide +kernel
theorem dL_law_2077 : decode code 2077 = .ok (.iload 5, 2) := by decide +kernel
theorem dL_law_2079 : decode code 2079 = .ok (.iconst 1, 1) := by decide +kernel
theorem dL_law_2080 : decode code 2080 = .ok (.iadd, 1) := by decide +kernel
theorem dL_law_2081 : decode code 2081 = .ok (.iaload, 1) := by decide +kernel
theorem dL_law_2082 : decode code 2082 = .ok (.aload_n 0, 1) := by decide +kernel
theorem dL_law_2083 : decode code 2083 = .ok (.iload 5, 2) := by decide +kernel
theorem dL_law_2085 : decode code 2085 = .ok (.iconst 2, 1) := by decide +kernel
theorem dL_law_2086 : decode code 2086 = .ok (.iadd, 1) := by decide +kernel
theorem dL_law_2087 : decode code 2087 = .ok (.iaload, 1) := by decide +kernel
theorem dL_law_2088 : decode code 2088 = .ok (.invokevirtual 237, 3) := by decide +kernel
theorem dL_law_2091 : decode code 2091 = .ok (.istore 7, 2) := by decide +kernel
theorem dL_law_2093 : decode code 2093 = .ok (.aload_n 2, 1) := by decide +kernel
theorem dL_law_2094 : decode code 2094 = .ok (.invokevirtual 149, 3) := by decide +kernel
theorem dL_law_2097 : decode code 2097 = .ok (.iload 6, 2) := by decide +kernel
theorem dL_law_2099 : decode code 2099 = .ok (.if_icmp .eq 5, 3) := by decide +kernel
theorem dL_law_2102 : decode code 2102 = .ok (.iconst 0, 1) := by decide +kernel
theorem dL_law_2104 : decode code 2104 = .ok (.iload 6, 2) := by decide +kernel
theorem dL_law_2106 : decode code 2106 = .ok (.ifCond .ne 15, 3) := by decide +kernel
